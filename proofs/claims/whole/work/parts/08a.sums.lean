/-! the component's sums over elements -/
abbrev CFG (f : Nat) (c : CS) : Prop := CF f c ∧ CG f c
def oI (o : Option Nat) : Int := match o with
  | some e => (e : Int)
  | none => -1
def bth (b : Int64) (o1 o2 : Option Nat) : Option (Int64 × Nat) := match o1 with
  | some a => match o2 with
    | some c => some (b, a + c)
    | none => none
  | none => none
theorem oI_n1 {o : Option Nat} : oI o = -1 ↔ o = none := by
  cases o with
  | none => exact ⟨fun _ => rfl, fun _ => rfl⟩
  | some e => exact ⟨fun h => absurd h (by show ¬ (e : Int) = -1; omega), fun h => nomatch h⟩
def T_X6_characterAt : Tr := fun av h N _ => ∃ (w : CW) (c : CS) (f j x : Nat), av = [mR 18, mI j, mI x] ∧ h = hC w c ∧ CFG f c ∧ j < 27 ∧ x < fQ f ∧ N (some (mI (oI (chE f j x)))) h
abbrev e_X6_characterAt : NE := (ftX6, [(29, (2, 0, 0, false, (0, 1), T_X1_logOf))], ltX6, [], [], false, 1, (0, 0), [], [], [], true)
theorem s_X6_characterAt : mm_Spec e_X6_characterAt kX6_characterAt 3 T_X6_characterAt := by
  rintro N X K av h hK ⟨w, c, f, j, x, rfl, rfl, ⟨hF, hG⟩, hj, hx, h2⟩
  have hb := fbase hF.1.1
  have hl := flog_lt hF.1.1 hx
  unfold chE at h2
  refine ⟨rfl, hK [] _ _ _ _ _ _ ?_⟩
  refine And.intro (fun q => ?_) (fun q => ?_)
  · have hx0 : ¬ x = 0 := by omega
    rw [if_neg hx0] at h2
    conv => whnf
    refine ⟨w, c, f, x, rfl, rfl, hF.1, hF.2.2.2.2.1, by omega, hx, ?_⟩
    have h1 : fP f * flog f x ≤ 23 * 27 := Nat.mul_le_mul (by omega) (by omega)
    have h3 : fP f * flog f x * j ≤ 23 * 27 * 27 := Nat.mul_le_mul h1 (by omega)
    conv => whnf
    rw [hF.1.2.1, cmul]
    refine And.intro (rng_nat (by omega)) ?_
    conv => whnf
    rw [cmul]
    refine And.intro (rng_nat (by omega)) ?_
    conv => whnf
    rw [hG.2.1]
    refine And.intro (dv_ok (by omega) (by omega)) ?_
    rw [tmn]
    exact h2
  · have hx0 : x = 0 := by omega
    rw [if_pos hx0] at h2
    refine And.intro (fun q2 => ?_) (fun q2 => ?_)
    · rw [if_neg (by omega)] at h2
      exact h2
    · rw [if_pos (by omega)] at h2
      exact h2
theorem m_X6_characterAt (l : Launch) : mm_Met l yX6_characterAt cX6_characterAt 3 (some .int) 1 0 0 T_X6_characterAt := mm_met (E := e_X6_characterAt) (cd := kX6_characterAt) s_X6_characterAt (by decide) kX6_characterAt_ok (by decide +kernel) (by decide +kernel) (Or.inr (Or.inl ⟨rfl, rfl⟩)) rfl (mm_eok_X6 _) (mm_calls_cons (mm_cbv wi_X1_logOf (tb3 (i := 9) rfl rfl) (m_X1_logOf l) (by decide) (by decide) rfl) (mm_calls_nil))
def T_X6_waveAt : Tr := fun av h N _ => ∃ (w : CW) (c : CS) (f x : Nat), av = [mR 18, mI x] ∧ h = hC w c ∧ CF f c ∧ x < fQ f ∧ N (some (mI (wvE f x : Nat))) h
abbrev e_X6_waveAt : NE := (ftX6, [(75, (2, 0, 0, false, (0, 1), T_X1_traceOf))], ltX6, [], [], false, 1, (0, 0), [], [], [], true)
theorem s_X6_waveAt : mm_Spec e_X6_waveAt kX6_waveAt 2 T_X6_waveAt := by
  rintro N X K av h hK ⟨w, c, f, x, rfl, rfl, hF, hx, h2⟩
  have hb := fbase hF.1.1
  have hw := wv_lt hF.1.1 hx
  refine ⟨rfl, hK [] _ _ _ _ _ _ ?_⟩
  conv => whnf
  rw [hF.1.2.2.2, show (fQ f : Int) - 1 = ((fQ f - 1 : Nat) : Int) by omega]
  refine And.intro (rng_nat (by omega)) ?_
  refine ⟨w, c, f, x, rfl, rfl, hF.1, hF.2.2.2.2.2, hx, ?_⟩
  conv => whnf
  rw [cmul]
  refine And.intro (rng_nat (by unfold wvE at hw; omega)) ?_
  exact h2
theorem m_X6_waveAt (l : Launch) : mm_Met l yX6_waveAt cX6_waveAt 2 (some .int) 1 0 0 T_X6_waveAt := mm_met (E := e_X6_waveAt) (cd := kX6_waveAt) s_X6_waveAt (by decide) kX6_waveAt_ok (by decide +kernel) (by decide +kernel) (Or.inr (Or.inl ⟨rfl, rfl⟩)) rfl (mm_eok_X6 _) (mm_calls_cons (mm_cbv wi_X1_traceOf (tb3 (i := 18) rfl rfl) (m_X1_traceOf l) (by decide) (by decide) rfl) (mm_calls_nil))
def T_X6_addBoth : Tr := fun av h N _ => ∃ (w : CW) (c : CS) (f : Nat) (b : Int) (o1 o2 : Option Nat), av = [mR 18, mI b, mI (oI o1), mI (oI o2)] ∧ h = hC w c ∧ CG f c ∧ (∀ e, o1 = some e → e ≤ 1000) ∧ (∀ e, o2 = some e → e ≤ 1000) ∧ ∀ G : Int → Int64, (∀ t, t < fD f → gV f G t = gV f (c.2.2.1 12) t + tv f (bth (Int64.ofInt b) o1 o2) t) → N none (hC w (kL c 12 G))
abbrev e_X6_addBoth : NE := (ftX6, [(67, (3, 0, 0, false, (0, 4), T_X4_add))], ltX6, [], [], false, 0, (0, 0), [], [], [], true)
theorem s_X6_addBoth : mm_Spec e_X6_addBoth kX6_addBoth 4 T_X6_addBoth := by
  rintro N X K av h hK ⟨w, c, f, b, o1, o2, rfl, rfl, hG, h1, h3, h2⟩
  have same : bth (Int64.ofInt b) o1 o2 = none → N none (hC w c) := fun z => by
    have h4 := h2 (c.2.2.1 12) (fun t _ => by rw [z]; exact (Int64.add_zero _).symm)
    rw [kL_self] at h4
    exact h4
  refine ⟨rfl, hK [] _ _ _ _ _ _ ?_⟩
  refine And.intro (fun q => ?_) (fun q => ?_)
  · refine same ?_
    rw [oI_n1.mp q]
    rfl
  refine And.intro (fun q2 => ?_) (fun q2 => ?_)
  · refine same ?_
    rw [oI_n1.mp q2]
    cases o1 <;> rfl
  cases o1 with
  | none => exact absurd rfl q
  | some x =>
    cases o2 with
    | none => exact absurd rfl q2
    | some y =>
      have b1 := h1 x rfl
      have b2 := h3 y rfl
      show mm_rng ((x : Int) + (y : Int)) ∧ _
      rw [cadd]
      refine And.intro (rng_nat (by omega)) ?_
      exact ⟨w, c, f, Int64.ofInt b, x + y, rfl, rfl, hG, by omega, fun G hg => h2 G hg⟩
theorem m_X6_addBoth (l : Launch) : mm_Met l yX6_addBoth cX6_addBoth 4 none 1 0 0 T_X6_addBoth := mm_met (E := e_X6_addBoth) (cd := kX6_addBoth) s_X6_addBoth (by decide) kX6_addBoth_ok (by decide +kernel) (by decide +kernel) (Or.inl ⟨rfl, rfl⟩) rfl (mm_eok_X6 _) (mm_calls_cons (mm_cbv wi_X4_add (tb3 (i := 26) rfl rfl) (m_X4_add l) (by decide) (by decide) rfl) (mm_calls_nil))
theorem ch_b {f j x e : Nat} (hf : f < 15) (h : chE f j x = some e) : e ≤ 1000 := by
  have := ch_lt hf h
  have hb := fbase hf
  omega
theorem wv_b {f x e : Nat} (hf : f < 15) (hx : x < fQ f) (h : some (wvE f x) = some e) : e ≤ 1000 := by
  cases h
  have := wv_lt hf hx
  have hb := fbase hf
  omega
theorem gau_b (f j a x : Nat) : gauT f j a x = bth (Int64.ofInt 1) (chE f j x) (some (wvE f (fprd f a x))) := by
  unfold gauT
  cases chE f j x <;> rfl
theorem jac_b (f i j c x : Nat) : jacT f i j c x = bth (Int64.ofInt 1) (chE f i x) (chE f j (fsum f c (fneg f x))) := by
  unfold jacT
  cases chE f i x with
  | none => rfl
  | some a => cases chE f j (fsum f c (fneg f x)) <;> rfl
theorem mel_b (f : Nat) (F : Nat → Int) (j x : Nat) : melT f F j x = bth (Int64.ofInt (F x)) (chE f j x) (some 0) := by
  unfold melT
  cases chE f j x <;> rfl

def T_X6_gauss : Tr := fun av h N _ => ∃ (w : CW) (c : CS) (f j a : Nat), av = [mR 18, mI j, mI a] ∧ h = hC w c ∧ CFG f c ∧ j < 27 ∧ a < fQ f ∧ ∀ G : Int → Int64, (∀ t, t < fD f → gV f G t = gauV f j a t) → N none (hC w (kL c 12 G))
abbrev e_X6_gauss : NE := (ftX6, [(38, (1, 0, 0, false, (0, 4), T_X4_clear)), (44, (3, 0, 0, false, (0, 6), T_X6_characterAt)), (48, (3, 0, 0, false, (0, 1), T_X1_times)), (51, (2, 0, 0, false, (0, 6), T_X6_waveAt)), (54, (4, 0, 0, false, (0, 6), T_X6_addBoth))], ltX6, [], [], false, 0, (0, 0), [], [], [], true)
set_option maxHeartbeats 4000000 in
theorem s_X6_gauss : mm_Spec e_X6_gauss kX6_gauss 4 T_X6_gauss := by
  rintro N X K av h hK ⟨w, c, f, j, a, rfl, rfl, ⟨hF, hG⟩, hj, ha, h2⟩
  have hb := fbase hF.1.1
  have hq : ∀ G : Int → Int64, (kL c 12 G).1 3 = (fQ f : Int) := fun _ => hF.1.2.2.2
  have loop : ∀ x : Nat, x ≤ fQ f → 0 ≤ x → ∀ G : Int → Int64, (∀ t, t < fD f → gV f G t = sumL (fun x => tv f (gauT f j a x) t) x) → K 9 [some (mR 18), some (mI j), some (mI a), some (mI x)] [] (hC w (kL c 12 G)) 0 0 := by
    refine mm_for (fQ f) (fun hx1 G hg => ?_) (fun x hx ih hx1 G hg => ?_)
    · refine hK [] _ _ _ _ _ _ ?_
      conv => whnf
      rw [hq]
      refine And.intro (fun _ => ?_) (fun q => absurd q (by omega))
      exact h2 G hg
    · have step : ∀ t, sumL (fun x => tv f (gauT f j a x) t) (x + 1) = sumL (fun x => tv f (gauT f j a x) t) x + tv f (gauT f j a x) t := fun _ => rfl
      refine hK [9] _ _ _ _ _ _ ?_
      conv => whnf
      rw [hq]
      refine And.intro (fun q => absurd q (by omega)) (fun _ => ?_)
      refine ⟨w, kL c 12 G, f, j, x, rfl, rfl, ⟨hF, hG⟩, hj, hx, ?_⟩
      refine ⟨w, kL c 12 G, f, a, x, rfl, rfl, hF.1, hF.2.2.2.1, ha, hx, ?_⟩
      have hpr := fprd_lt hF.1.1 ha hx
      refine ⟨w, kL c 12 G, f, _, rfl, rfl, hF, hpr, ?_⟩
      refine ⟨w, kL c 12 G, f, 1, chE f j x, some (wvE f (fprd f a x)), rfl, rfl, hG, fun e he => ch_b hF.1.1 he, fun e he => wv_b hF.1.1 hpr he, fun G2 hg2 => ?_⟩
      refine And.intro (rng_of (by omega) (by omega)) ?_
      have h3 := ih (by omega) G2 (fun t ht => by rw [hg2 t ht, kL_at, hg t ht, step, gau_b])
      rw [← kL_kL c G G2] at h3
      exact h3
  refine ⟨rfl, hK [9] _ _ _ _ _ _ ?_⟩
  refine ⟨w, c, rfl, rfl, fun G hg => ?_⟩
  refine loop 0 (by omega) (by omega) G (fun t ht => ?_)
  rw [gV_0 hG.1 (fun i h1 h3 => by rw [hg, if_pos ⟨h1, h3⟩])]
  rfl
theorem m_X6_gauss (l : Launch) : mm_Met l yX6_gauss cX6_gauss 4 none 2 0 0 T_X6_gauss := mm_met (E := e_X6_gauss) (cd := kX6_gauss) s_X6_gauss (by decide) kX6_gauss_ok (by decide +kernel) (by decide +kernel) (Or.inl ⟨rfl, rfl⟩) rfl (mm_eok_X6 _) (mm_calls_cons (mm_cbv wi_X4_clear (tb3 (i := 4) rfl rfl) (m_X4_clear l) (by decide) (by decide) rfl) (mm_calls_cons (mm_cbv wi_X6_characterAt (tb3 (i := 5) rfl rfl) (m_X6_characterAt l) (by decide) (by decide) rfl) (mm_calls_cons (mm_cbv wi_X1_times (tb3 (i := 13) rfl rfl) (m_X1_times l) (by decide) (by decide) rfl) (mm_calls_cons (mm_cbv wi_X6_waveAt (tb3 (i := 14) rfl rfl) (m_X6_waveAt l) (by decide) (by decide) rfl) (mm_calls_cons (mm_cbv wi_X6_addBoth (tb3 (i := 22) rfl rfl) (m_X6_addBoth l) (by decide) (by decide) rfl) (mm_calls_nil))))))

def T_X6_jacobi : Tr := fun av h N _ => ∃ (w : CW) (c : CS) (f i j k : Nat), av = [mR 18, mI i, mI j, mI k] ∧ h = hC w c ∧ CFG f c ∧ i < 27 ∧ j < 27 ∧ k < fQ f ∧ ∀ G : Int → Int64, (∀ t, t < fD f → gV f G t = jacV f i j k t) → N none (hC w (kL c 12 G))
abbrev e_X6_jacobi : NE := (ftX6, [(38, (1, 0, 0, false, (0, 4), T_X4_clear)), (44, (3, 0, 0, false, (0, 6), T_X6_characterAt)), (58, (3, 0, 0, false, (0, 1), T_X1_minus)), (54, (4, 0, 0, false, (0, 6), T_X6_addBoth))], ltX6, [], [], false, 0, (0, 0), [], [], [], true)
set_option maxHeartbeats 4000000 in
theorem s_X6_jacobi : mm_Spec e_X6_jacobi kX6_jacobi 5 T_X6_jacobi := by
  rintro N X K av h hK ⟨w, c, f, i, j, k, rfl, rfl, ⟨hF, hG⟩, hi, hj, hk, h2⟩
  have hb := fbase hF.1.1
  have hq : ∀ G : Int → Int64, (kL c 12 G).1 3 = (fQ f : Int) := fun _ => hF.1.2.2.2
  have loop : ∀ x : Nat, x ≤ fQ f → 0 ≤ x → ∀ G : Int → Int64, (∀ t, t < fD f → gV f G t = sumL (fun x => tv f (jacT f i j k x) t) x) → K 10 [some (mR 18), some (mI i), some (mI j), some (mI k), some (mI x)] [] (hC w (kL c 12 G)) 0 0 := by
    refine mm_for (fQ f) (fun hx1 G hg => ?_) (fun x hx ih hx1 G hg => ?_)
    · refine hK [] _ _ _ _ _ _ ?_
      conv => whnf
      rw [hq]
      refine And.intro (fun _ => ?_) (fun q => absurd q (by omega))
      exact h2 G hg
    · have step : ∀ t, sumL (fun x => tv f (jacT f i j k x) t) (x + 1) = sumL (fun x => tv f (jacT f i j k x) t) x + tv f (jacT f i j k x) t := fun _ => rfl
      refine hK [10] _ _ _ _ _ _ ?_
      conv => whnf
      rw [hq]
      refine And.intro (fun q => absurd q (by omega)) (fun _ => ?_)
      refine ⟨w, kL c 12 G, f, i, x, rfl, rfl, ⟨hF, hG⟩, hi, hx, ?_⟩
      refine ⟨w, kL c 12 G, f, k, x, rfl, rfl, hF.1, hF.2.1, hF.2.2.1, hk, hx, ?_⟩
      have hsm := fsum_lt hF.1.1 hk (fneg_lt hF.1.1 hx)
      refine ⟨w, kL c 12 G, f, j, _, rfl, rfl, ⟨hF, hG⟩, hj, hsm, ?_⟩
      refine ⟨w, kL c 12 G, f, 1, chE f i x, chE f j (fsum f k (fneg f x)), rfl, rfl, hG, fun e he => ch_b hF.1.1 he, fun e he => ch_b hF.1.1 he, fun G2 hg2 => ?_⟩
      refine And.intro (rng_of (by omega) (by omega)) ?_
      have h3 := ih (by omega) G2 (fun t ht => by rw [hg2 t ht, kL_at, hg t ht, step, jac_b])
      rw [← kL_kL c G G2] at h3
      exact h3
  refine ⟨rfl, hK [10] _ _ _ _ _ _ ?_⟩
  refine ⟨w, c, rfl, rfl, fun G hg => ?_⟩
  refine loop 0 (by omega) (by omega) G (fun t ht => ?_)
  rw [gV_0 hG.1 (fun i h1 h3 => by rw [hg, if_pos ⟨h1, h3⟩])]
  rfl
theorem m_X6_jacobi (l : Launch) : mm_Met l yX6_jacobi cX6_jacobi 5 none 2 0 0 T_X6_jacobi := mm_met (E := e_X6_jacobi) (cd := kX6_jacobi) s_X6_jacobi (by decide) kX6_jacobi_ok (by decide +kernel) (by decide +kernel) (Or.inl ⟨rfl, rfl⟩) rfl (mm_eok_X6 _) (mm_calls_cons (mm_cbv wi_X4_clear (tb3 (i := 4) rfl rfl) (m_X4_clear l) (by decide) (by decide) rfl) (mm_calls_cons (mm_cbv wi_X6_characterAt (tb3 (i := 5) rfl rfl) (m_X6_characterAt l) (by decide) (by decide) rfl) (mm_calls_cons (mm_cbv wi_X1_minus (tb3 (i := 34) rfl rfl) (m_X1_minus l) (by decide) (by decide) rfl) (mm_calls_cons (mm_cbv wi_X6_addBoth (tb3 (i := 22) rfl rfl) (m_X6_addBoth l) (by decide) (by decide) rfl) (mm_calls_nil)))))

def T_X6_kloosterman : Tr := fun av h N _ => ∃ (w : CW) (c : CS) (f a b : Nat), av = [mR 18, mI a, mI b] ∧ h = hC w c ∧ CFG f c ∧ a < fQ f ∧ b < fQ f ∧ ∀ G : Int → Int64, (∀ t, t < fD f → gV f G t = kloV f a b t) → N none (hC w (kL c 12 G))
abbrev e_X6_kloosterman : NE := (ftX6, [(38, (1, 0, 0, false, (0, 4), T_X4_clear)), (48, (3, 0, 0, false, (0, 1), T_X1_times)), (61, (3, 0, 0, false, (0, 1), T_X1_over)), (64, (3, 0, 0, false, (0, 1), T_X1_plus)), (51, (2, 0, 0, false, (0, 6), T_X6_waveAt)), (67, (3, 0, 0, false, (0, 4), T_X4_add))], ltX6, [], [], false, 0, (0, 0), [], [], [], true)
set_option maxHeartbeats 4000000 in
theorem s_X6_kloosterman : mm_Spec e_X6_kloosterman kX6_kloosterman 4 T_X6_kloosterman := by
  rintro N X K av h hK ⟨w, c, f, a, b, rfl, rfl, ⟨hF, hG⟩, ha, hbb, h2⟩
  have hb := fbase hF.1.1
  have hq : ∀ G : Int → Int64, (kL c 12 G).1 3 = (fQ f : Int) := fun _ => hF.1.2.2.2
  have loop : ∀ x : Nat, x ≤ fQ f → 1 ≤ x → ∀ G : Int → Int64, (∀ t, t < fD f → gV f G t = sumL (fun x => tv f (kloT f a b x) t) x) → K 9 [some (mR 18), some (mI a), some (mI b), some (mI x)] [] (hC w (kL c 12 G)) 0 0 := by
    refine mm_for (fQ f) (fun hx1 G hg => ?_) (fun x hx ih hx1 G hg => ?_)
    · refine hK [] _ _ _ _ _ _ ?_
      conv => whnf
      rw [hq]
      refine And.intro (fun _ => ?_) (fun q => absurd q (by omega))
      exact h2 G hg
    · have step : ∀ t, sumL (fun x => tv f (kloT f a b x) t) (x + 1) = sumL (fun x => tv f (kloT f a b x) t) x + tv f (kloT f a b x) t := fun _ => rfl
      refine hK [9] _ _ _ _ _ _ ?_
      conv => whnf
      rw [hq]
      refine And.intro (fun q => absurd q (by omega)) (fun _ => ?_)
      refine ⟨w, kL c 12 G, f, a, x, rfl, rfl, hF.1, hF.2.2.2.1, ha, hx, ?_⟩
      refine ⟨w, kL c 12 G, f, b, x, rfl, rfl, hF.1, hF.2.2.2.1, hF.2.2.2.2.1, hbb, by omega, hx, ?_⟩
      have hpr := fprd_lt hF.1.1 ha hx
      have hqu := (rquo_at hF.1.1 hbb hx (by omega)).1
      refine ⟨w, kL c 12 G, f, _, _, rfl, rfl, hF.1, hF.2.1, hpr, hqu, ?_⟩
      have hsm := fsum_lt hF.1.1 hpr hqu
      refine ⟨w, kL c 12 G, f, _, rfl, rfl, hF, hsm, ?_⟩
      have hwv := wv_lt hF.1.1 hsm
      refine ⟨w, kL c 12 G, f, 1, _, rfl, rfl, hG, by omega, fun G2 hg2 => ?_⟩
      refine And.intro (rng_of (by omega) (by omega)) ?_
      have h3 := ih (by omega) G2 (fun t ht => by rw [hg2 t ht, kL_at, hg t ht, step]; unfold kloT; rw [if_neg (by omega)]; rfl)
      rw [← kL_kL c G G2] at h3
      exact h3
  refine ⟨rfl, hK [9] _ _ _ _ _ _ ?_⟩
  refine ⟨w, c, rfl, rfl, fun G hg => ?_⟩
  refine loop 1 (by omega) (by omega) G (fun t ht => ?_)
  rw [gV_0 hG.1 (fun i h1 h3 => by rw [hg, if_pos ⟨h1, h3⟩])]
  exact (Int64.zero_add _).symm
theorem m_X6_kloosterman (l : Launch) : mm_Met l yX6_kloosterman cX6_kloosterman 4 none 2 0 0 T_X6_kloosterman := mm_met (E := e_X6_kloosterman) (cd := kX6_kloosterman) s_X6_kloosterman (by decide) kX6_kloosterman_ok (by decide +kernel) (by decide +kernel) (Or.inl ⟨rfl, rfl⟩) rfl (mm_eok_X6 _) (mm_calls_cons (mm_cbv wi_X4_clear (tb3 (i := 4) rfl rfl) (m_X4_clear l) (by decide) (by decide) rfl) (mm_calls_cons (mm_cbv wi_X1_times (tb3 (i := 13) rfl rfl) (m_X1_times l) (by decide) (by decide) rfl) (mm_calls_cons (mm_cbv wi_X1_over (tb3 (i := 39) rfl rfl) (m_X1_over l) (by decide) (by decide) rfl) (mm_calls_cons (mm_cbv wi_X1_plus (tb3 (i := 43) rfl rfl) (m_X1_plus l) (by decide) (by decide) rfl) (mm_calls_cons (mm_cbv wi_X6_waveAt (tb3 (i := 14) rfl rfl) (m_X6_waveAt l) (by decide) (by decide) rfl) (mm_calls_cons (mm_cbv wi_X4_add (tb3 (i := 26) rfl rfl) (m_X4_add l) (by decide) (by decide) rfl) (mm_calls_nil)))))))

def T_X6_period : Tr := fun av h N _ => ∃ (w : CW) (c : CS) (f e i : Nat), av = [mR 18, mI e, mI i] ∧ h = hC w c ∧ CFG f c ∧ 1 ≤ e ∧ ∀ G : Int → Int64, (∀ t, t < fD f → gV f G t = perV f e i t) → N none (hC w (kL c 12 G))
abbrev e_X6_period : NE := (ftX6, [(38, (1, 0, 0, false, (0, 4), T_X4_clear)), (71, (4, 0, 0, false, (0, 1), T_X1_inClass)), (51, (2, 0, 0, false, (0, 6), T_X6_waveAt)), (67, (3, 0, 0, false, (0, 4), T_X4_add))], ltX6, [], [], false, 0, (0, 0), [], [], [], true)
set_option maxHeartbeats 4000000 in
theorem s_X6_period : mm_Spec e_X6_period kX6_period 4 T_X6_period := by
  rintro N X K av h hK ⟨w, c, f, e, i, rfl, rfl, ⟨hF, hG⟩, he, h2⟩
  have hb := fbase hF.1.1
  have hq : ∀ G : Int → Int64, (kL c 12 G).1 3 = (fQ f : Int) := fun _ => hF.1.2.2.2
  have loop : ∀ x : Nat, x ≤ fQ f → 1 ≤ x → ∀ G : Int → Int64, (∀ t, t < fD f → gV f G t = sumL (fun x => tv f (perT f e i x) t) x) → K 9 [some (mR 18), some (mI e), some (mI i), some (mI x)] [] (hC w (kL c 12 G)) 0 0 := by
    refine mm_for (fQ f) (fun hx1 G hg => ?_) (fun x hx ih hx1 G hg => ?_)
    · refine hK [] _ _ _ _ _ _ ?_
      conv => whnf
      rw [hq]
      refine And.intro (fun _ => ?_) (fun q => absurd q (by omega))
      exact h2 G hg
    · have step : ∀ t, sumL (fun x => tv f (perT f e i x) t) (x + 1) = sumL (fun x => tv f (perT f e i x) t) x + tv f (perT f e i x) t := fun _ => rfl
      refine hK [9] _ _ _ _ _ _ ?_
      conv => whnf
      rw [hq]
      refine And.intro (fun q => absurd q (by omega)) (fun _ => ?_)
      refine ⟨w, kL c 12 G, f, x, e, i, rfl, rfl, hF.1, hF.2.2.2.2.1, hx, he, ?_⟩
      refine And.intro (fun q => ?_) (fun q => ?_)
      · have q := bi_c0 q
        refine And.intro (rng_of (by omega) (by omega)) ?_
        refine ih (by omega) G (fun t ht => ?_)
        rw [hg t ht, step]
        unfold perT
        rw [if_neg q]
        exact (Int64.add_zero _).symm
      have q := bi_c1 q
      refine ⟨w, kL c 12 G, f, x, rfl, rfl, hF, hx, ?_⟩
      have hwv := wv_lt hF.1.1 hx
      refine ⟨w, kL c 12 G, f, 1, _, rfl, rfl, hG, by omega, fun G2 hg2 => ?_⟩
      refine And.intro (rng_of (by omega) (by omega)) ?_
      have h3 := ih (by omega) G2 (fun t ht => by rw [hg2 t ht, kL_at, hg t ht, step]; unfold perT; rw [if_pos q]; rfl)
      rw [← kL_kL c G G2] at h3
      exact h3
  refine ⟨rfl, hK [9] _ _ _ _ _ _ ?_⟩
  refine ⟨w, c, rfl, rfl, fun G hg => ?_⟩
  refine loop 1 (by omega) (by omega) G (fun t ht => ?_)
  rw [gV_0 hG.1 (fun i h1 h3 => by rw [hg, if_pos ⟨h1, h3⟩])]
  exact (Int64.zero_add _).symm
theorem m_X6_period (l : Launch) : mm_Met l yX6_period cX6_period 4 none 2 0 0 T_X6_period := mm_met (E := e_X6_period) (cd := kX6_period) s_X6_period (by decide) kX6_period_ok (by decide +kernel) (by decide +kernel) (Or.inl ⟨rfl, rfl⟩) rfl (mm_eok_X6 _) (mm_calls_cons (mm_cbv wi_X4_clear (tb3 (i := 4) rfl rfl) (m_X4_clear l) (by decide) (by decide) rfl) (mm_calls_cons (mm_cbv wi_X1_inClass (tb3 (i := 48) rfl rfl) (m_X1_inClass l) (by decide) (by decide) rfl) (mm_calls_cons (mm_cbv wi_X6_waveAt (tb3 (i := 14) rfl rfl) (m_X6_waveAt l) (by decide) (by decide) rfl) (mm_calls_cons (mm_cbv wi_X4_add (tb3 (i := 26) rfl rfl) (m_X4_add l) (by decide) (by decide) rfl) (mm_calls_nil)))))

def T_X6_spectrum : Tr := fun av h N _ => ∃ (w : CW) (c : CS) (f a : Nat) (F : Nat → Int), av = [mR 18, mI a] ∧ h = hC w c ∧ CFG f c ∧ a < fQ f ∧ (∀ x : Nat, x < fQ f → c.2.1 16 (x : Int) = F x) ∧ ∀ G : Int → Int64, (∀ t, t < fD f → gV f G t = speV f F a t) → N none (hC w (kL c 12 G))
abbrev e_X6_spectrum : NE := (ftX6, [(38, (1, 0, 0, false, (0, 4), T_X4_clear)), (48, (3, 0, 0, false, (0, 1), T_X1_times)), (51, (2, 0, 0, false, (0, 6), T_X6_waveAt)), (67, (3, 0, 0, false, (0, 4), T_X4_add))], ltX6, [], [], false, 0, (0, 0), [], [], [], true)
set_option maxHeartbeats 4000000 in
theorem s_X6_spectrum : mm_Spec e_X6_spectrum kX6_spectrum 3 T_X6_spectrum := by
  rintro N X K av h hK ⟨w, c, f, a, F, rfl, rfl, ⟨hF, hG⟩, ha, hW, h2⟩
  have hb := fbase hF.1.1
  have hq : ∀ G : Int → Int64, (kL c 12 G).1 3 = (fQ f : Int) := fun _ => hF.1.2.2.2
  have loop : ∀ x : Nat, x ≤ fQ f → 0 ≤ x → ∀ G : Int → Int64, (∀ t, t < fD f → gV f G t = sumL (fun x => tv f (speT f F a x) t) x) → K 9 [some (mR 18), some (mI a), some (mI x)] [] (hC w (kL c 12 G)) 0 0 := by
    refine mm_for (fQ f) (fun hx1 G hg => ?_) (fun x hx ih hx1 G hg => ?_)
    · refine hK [] _ _ _ _ _ _ ?_
      conv => whnf
      rw [hq]
      refine And.intro (fun _ => ?_) (fun q => absurd q (by omega))
      exact h2 G hg
    · have step : ∀ t, sumL (fun x => tv f (speT f F a x) t) (x + 1) = sumL (fun x => tv f (speT f F a x) t) x + tv f (speT f F a x) t := fun _ => rfl
      refine hK [9] _ _ _ _ _ _ ?_
      conv => whnf
      rw [hq]
      refine And.intro (fun q => absurd q (by omega)) (fun _ => ?_)
      refine And.intro (by omega) ?_
      refine ⟨w, kL c 12 G, f, a, x, rfl, rfl, hF.1, hF.2.2.2.1, ha, hx, ?_⟩
      have hpr := fprd_lt hF.1.1 ha hx
      refine ⟨w, kL c 12 G, f, _, rfl, rfl, hF, hpr, ?_⟩
      have hwv := wv_lt hF.1.1 hpr
      refine ⟨w, kL c 12 G, f, Int64.ofInt (c.2.1 16 (x : Int)), _, rfl, rfl, hG, by omega, fun G2 hg2 => ?_⟩
      refine And.intro (rng_of (by omega) (by omega)) ?_
      have h3 := ih (by omega) G2 (fun t ht => by rw [hg2 t ht, kL_at, hg t ht, step, hW x hx]; rfl)
      rw [← kL_kL c G G2] at h3
      exact h3
  refine ⟨rfl, hK [9] _ _ _ _ _ _ ?_⟩
  refine ⟨w, c, rfl, rfl, fun G hg => ?_⟩
  refine loop 0 (by omega) (by omega) G (fun t ht => ?_)
  rw [gV_0 hG.1 (fun i h1 h3 => by rw [hg, if_pos ⟨h1, h3⟩])]
  rfl
theorem m_X6_spectrum (l : Launch) : mm_Met l yX6_spectrum cX6_spectrum 3 none 2 0 0 T_X6_spectrum := mm_met (E := e_X6_spectrum) (cd := kX6_spectrum) s_X6_spectrum (by decide) kX6_spectrum_ok (by decide +kernel) (by decide +kernel) (Or.inl ⟨rfl, rfl⟩) rfl (mm_eok_X6 _) (mm_calls_cons (mm_cbv wi_X4_clear (tb3 (i := 4) rfl rfl) (m_X4_clear l) (by decide) (by decide) rfl) (mm_calls_cons (mm_cbv wi_X1_times (tb3 (i := 13) rfl rfl) (m_X1_times l) (by decide) (by decide) rfl) (mm_calls_cons (mm_cbv wi_X6_waveAt (tb3 (i := 14) rfl rfl) (m_X6_waveAt l) (by decide) (by decide) rfl) (mm_calls_cons (mm_cbv wi_X4_add (tb3 (i := 26) rfl rfl) (m_X4_add l) (by decide) (by decide) rfl) (mm_calls_nil)))))

def T_X6_mellin : Tr := fun av h N _ => ∃ (w : CW) (c : CS) (f j : Nat) (F : Nat → Int), av = [mR 18, mI j] ∧ h = hC w c ∧ CFG f c ∧ j < 27 ∧ (∀ x : Nat, x < fQ f → c.2.1 16 (x : Int) = F x) ∧ ∀ G : Int → Int64, (∀ t, t < fD f → gV f G t = melV f F j t) → N none (hC w (kL c 12 G))
abbrev e_X6_mellin : NE := (ftX6, [(38, (1, 0, 0, false, (0, 4), T_X4_clear)), (44, (3, 0, 0, false, (0, 6), T_X6_characterAt)), (54, (4, 0, 0, false, (0, 6), T_X6_addBoth))], ltX6, [], [], false, 0, (0, 0), [], [], [], true)
set_option maxHeartbeats 4000000 in
theorem s_X6_mellin : mm_Spec e_X6_mellin kX6_mellin 3 T_X6_mellin := by
  rintro N X K av h hK ⟨w, c, f, j, F, rfl, rfl, ⟨hF, hG⟩, hj, hW, h2⟩
  have hb := fbase hF.1.1
  have hq : ∀ G : Int → Int64, (kL c 12 G).1 3 = (fQ f : Int) := fun _ => hF.1.2.2.2
  have loop : ∀ x : Nat, x ≤ fQ f → 0 ≤ x → ∀ G : Int → Int64, (∀ t, t < fD f → gV f G t = sumL (fun x => tv f (melT f F j x) t) x) → K 9 [some (mR 18), some (mI j), some (mI x)] [] (hC w (kL c 12 G)) 0 0 := by
    refine mm_for (fQ f) (fun hx1 G hg => ?_) (fun x hx ih hx1 G hg => ?_)
    · refine hK [] _ _ _ _ _ _ ?_
      conv => whnf
      rw [hq]
      refine And.intro (fun _ => ?_) (fun q => absurd q (by omega))
      exact h2 G hg
    · have step : ∀ t, sumL (fun x => tv f (melT f F j x) t) (x + 1) = sumL (fun x => tv f (melT f F j x) t) x + tv f (melT f F j x) t := fun _ => rfl
      refine hK [9] _ _ _ _ _ _ ?_
      conv => whnf
      rw [hq]
      refine And.intro (fun q => absurd q (by omega)) (fun _ => ?_)
      refine And.intro (by omega) ?_
      refine ⟨w, kL c 12 G, f, j, x, rfl, rfl, ⟨hF, hG⟩, hj, hx, ?_⟩
      refine ⟨w, kL c 12 G, f, c.2.1 16 (x : Int), chE f j x, some 0, rfl, rfl, hG, fun e he => ch_b hF.1.1 he, fun e he => by cases he; omega, fun G2 hg2 => ?_⟩
      refine And.intro (rng_of (by omega) (by omega)) ?_
      have h3 := ih (by omega) G2 (fun t ht => by rw [hg2 t ht, kL_at, hg t ht, step, mel_b, hW x hx])
      rw [← kL_kL c G G2] at h3
      exact h3
  refine ⟨rfl, hK [9] _ _ _ _ _ _ ?_⟩
  refine ⟨w, c, rfl, rfl, fun G hg => ?_⟩
  refine loop 0 (by omega) (by omega) G (fun t ht => ?_)
  rw [gV_0 hG.1 (fun i h1 h3 => by rw [hg, if_pos ⟨h1, h3⟩])]
  rfl
theorem m_X6_mellin (l : Launch) : mm_Met l yX6_mellin cX6_mellin 3 none 2 0 0 T_X6_mellin := mm_met (E := e_X6_mellin) (cd := kX6_mellin) s_X6_mellin (by decide) kX6_mellin_ok (by decide +kernel) (by decide +kernel) (Or.inl ⟨rfl, rfl⟩) rfl (mm_eok_X6 _) (mm_calls_cons (mm_cbv wi_X4_clear (tb3 (i := 4) rfl rfl) (m_X4_clear l) (by decide) (by decide) rfl) (mm_calls_cons (mm_cbv wi_X6_characterAt (tb3 (i := 5) rfl rfl) (m_X6_characterAt l) (by decide) (by decide) rfl) (mm_calls_cons (mm_cbv wi_X6_addBoth (tb3 (i := 22) rfl rfl) (m_X6_addBoth l) (by decide) (by decide) rfl) (mm_calls_nil))))
