/-! the reference: what is told of values, making, dividing -/
theorem mvV_congr {f : Nat} {V V' : Nat → Int64} (h : ∀ t, t < fD f → V t = V' t) (m t : Nat) : mvV f V m t = mvV f V' m t := sumL_congr _ (fun i hi => by rw [h i hi])
theorem mulV_congr {f : Nat} {V V' U U' : Nat → Int64} (h : ∀ t, t < fD f → V t = V' t) (h2 : ∀ t, t < fD f → U t = U' t) (t : Nat) : mulV f V U t = mulV f V' U' t := sumL_congr _ (fun i hi => sumL_congr _ (fun j hj => by rw [h i hi, h2 j hj]))
def T_X10_coefficient : Tr := fun av h N _ => ∃ (w : FW) (s : RS) (a : AS) (p i : Int), av = [mR 1000, mI p, mI i] ∧ h = hR w s ∧ RR a s ∧ mm_rng p ∧ mm_rng i ∧ RP w a (xCoefficient a p i) N
abbrev e_X10_coefficient : NE := (ftX10, [(370, (1, 0, 0, false, (1, 0), T_X10_isPlace)), (162, (3, 0, 0, false, (1, 0), T_X10_isIn)), (184, (2, 0, 0, false, (1, 0), T_X10_cell)), (373, (2, 0, 0, false, (0, 10), T_X10_fail))], ltX10, [], [], false, 1, (0, 0), [], [], [], false)
theorem s_X10_coefficient : mm_Spec e_X10_coefficient kX10_coefficient 3 T_X10_coefficient := by
  rintro N X K av h hK ⟨w, s, a, p, i, rfl, rfl, hr, hp, hi, h2⟩
  have hd : (sI s 1 0).1 15 = (fD (aF a) : Nat) := hr.2.1.2.1.2.2.1
  have hb := fbase hr.1.1
  have hno : ¬ (okP p ∧ 0 ≤ i ∧ i < (fD (aF a) : Int)) → xCoefficient a p i = (1, 0) := fun q => by unfold xCoefficient; rw [if_neg q]
  refine ⟨rfl, hK [] _ _ _ _ _ _ ?_⟩
  refine ⟨p, rfl, hp, ?_⟩
  refine And.intro (fun q1 => ?_) (fun q1 => ?_)
  · have q1 := bi_c0 q1
    exact ⟨w, sI s 1 0, 1, rfl, rfl, RP_fail h2 hr (hno (fun z => q1 z.1))⟩
  have q1 := bi_c1 q1
  conv => whnf
  rw [show s.1 15 = (fD (aF a) : Nat) from hd]
  refine And.intro (rng_of (by omega) (by omega)) ?_
  refine ⟨_, _, _, rfl, ?_⟩
  rw [l_0, l_of hi, l_of (rng_of (by omega) (by omega))]
  refine And.intro (fun q2 => ?_) (fun q2 => ?_)
  · have q2 := bi_c0 q2
    exact ⟨w, sI s 1 0, 1, rfl, rfl, RP_fail h2 hr (hno (fun z => q2 ⟨z.2.1, by omega⟩))⟩
  have q2 := bi_c1 q2
  obtain ⟨pn, rfl⟩ := Int.eq_ofNat_of_zero_le q1.1
  obtain ⟨n, rfl⟩ := Int.eq_ofNat_of_zero_le q2.1
  refine ⟨pn, n, rfl, by omega, by omega, by omega, by omega, ?_⟩
  refine And.intro (by omega) ?_
  have hv := slot_of hr (i := pn) (by omega) n (by omega)
  have hv2 := hr.1.2.1 pn n (by omega) (by omega)
  conv => whnf
  rw [show s.2.2 24 (256 * (pn : Int) + n) = _ from hv]
  have e : (vL (aP a pn) n).toInt = aP a pn n := l_of (rng_of (by omega) (by omega))
  rw [e]
  refine And.intro (rng_of (by omega) (by omega)) ?_
  exact RP_ok h2 hr (by unfold xCoefficient; rw [if_pos ⟨q1, q2.1, by omega⟩]; rfl) rfl
theorem m_X10_coefficient (l : Launch) : mm_Met l yX10_coefficient cX10_coefficient 3 (some .int) 2 0 0 T_X10_coefficient := mm_met (E := e_X10_coefficient) (cd := kX10_coefficient) s_X10_coefficient (by decide) kX10_coefficient_ok (by decide +kernel) (by decide +kernel) (Or.inr (Or.inl ⟨rfl, rfl⟩)) rfl (mm_eok_X10 _) (mm_calls_cons (mm_cbs wi_X10_isPlace (tb6 (i := 173) rfl rfl) (m_X10_isPlace l) (by decide) (by decide) rfl) (mm_calls_cons (mm_cbs wi_X10_isIn (tb6 (i := 177) rfl rfl) (m_X10_isIn l) (by decide) (by decide) rfl) (mm_calls_cons (mm_cbs wi_X10_cell (tb5 (i := 238) rfl rfl) (m_X10_cell l) (by decide) (by decide) rfl) (mm_calls_cons (mm_cbv wi_X10_fail (tb6 (i := 180) rfl rfl) (m_X10_fail l) (by decide) (by decide) rfl) (mm_calls_nil)))))
def T_X10_isWhole : Tr := fun av h N _ => ∃ (w : FW) (s : RS) (f p : Nat) (V : Nat → Int64), av = [mR 1000, mI p] ∧ h = hR w s ∧ RQ f s ∧ p < 8 ∧ (∀ t, t < fD f → s.2.2 24 (256 * (p : Int) + t) = V t) ∧ N (some (mI (bi (∀ t, t < fD f → 1 ≤ t → V t = 0)))) h
abbrev e_X10_isWhole : NE := (ftX10, [(184, (2, 0, 0, false, (1, 0), T_X10_cell))], ltX10, [], [], false, 2, (0, 0), [], [], [], false)
theorem s_X10_isWhole : mm_Spec e_X10_isWhole kX10_isWhole 3 T_X10_isWhole := by
  rintro N X K av h hK ⟨w, s, f, p, V, rfl, rfl, ⟨hf, hn, hd, -⟩, hp, hV, h2⟩
  obtain ⟨b1, b2, b3, b4, b5, b6, b7, b8, b9, b10, b11, b12⟩ := fbase hf
  have loop : ∀ i : Nat, i ≤ fD f → 1 ≤ i → (∀ t, t < i → 1 ≤ t → V t = 0) → K 2 [some (mR 1000), some (mI p), some (mI i)] [] (hR w s) 0 0 := by
    refine mm_for (fD f) (fun _ hall => ?_) (fun i hi ih hi1 hall => ?_)
    · refine hK [2] _ _ _ _ _ _ ?_
      refine And.intro (fun _ => ?_) (fun q => absurd q (by omega))
      rw [bi_t hall] at h2
      exact And.intro (Or.inr rfl) h2
    · refine hK [2] _ _ _ _ _ _ ?_
      refine And.intro (fun q => absurd q (by omega)) (fun _ => ?_)
      refine ⟨p, i, rfl, by omega, by omega, by omega, by omega, ?_⟩
      refine And.intro (by omega) ?_
      conv => whnf
      rw [hV i hi]
      refine And.intro (fun q => ?_) (fun q => ?_)
      · have e := (cmp_eq _ _).mp q
        refine And.intro (rng_of (by omega) (by omega)) ?_
        refine ih (by omega) (fun t ht ht1 => ?_)
        by_cases z : t = i
        · rw [z]; exact e
        · exact hall t (by omega) ht1
      · rw [bi_f (fun hall2 => q ((cmp_eq _ _).mpr (hall2 i hi hi1)))] at h2
        exact And.intro (Or.inl rfl) h2
  refine ⟨rfl, hK [2] _ _ _ _ _ _ ?_⟩
  exact loop 1 (by omega) (by omega) (fun t ht ht1 => by omega)
theorem m_X10_isWhole (l : Launch) : mm_Met l yX10_isWhole cX10_isWhole 3 (some .boolean) 1 0 0 T_X10_isWhole := mm_met (E := e_X10_isWhole) (cd := kX10_isWhole) s_X10_isWhole (by decide) kX10_isWhole_ok (by decide +kernel) (by decide +kernel) (Or.inr (Or.inr (Or.inl ⟨rfl, rfl⟩))) rfl (mm_eok_X10 _) (mm_calls_cons (mm_cbs wi_X10_cell (tb5 (i := 238) rfl rfl) (m_X10_cell l) (by decide) (by decide) rfl) (mm_calls_nil))
/-- only rest, counts and the slots behind the places have changed -/
def FW1 (s s' : RS) : Prop := FR [] [] [18, 19, 24, 25] s s' ∧ ∀ i : Int, i < 2048 → s'.2.2 24 i = s.2.2 24 i
theorem FW1_rf (s : RS) : FW1 s s := ⟨FR_rf s, fun _ _ => rfl⟩
theorem FW1_tr {s s' s2 : RS} (h : FW1 s s') (h2 : FW1 s' s2) : FW1 s s2 := ⟨FR_tr h.1 h2.1 rfl rfl rfl, fun i hi => (h2.2 i hi).trans (h.2 i hi)⟩
theorem FW1_g {s : RS} {f a : Nat} {V : Nat → Int64} {L : Nat → Int → Int64} (ha : 8 ≤ a) (hL : ∀ k, k ≠ 18 → k ≠ 24 → k ≠ 25 → L k = s.2.2 k) (hs : slotS f a V (s.2.2 24) (L 24)) : FW1 s (s.1, s.2.1, L) := by
  refine ⟨⟨fun _ _ => rfl, fun _ _ => rfl, fun k hk => hL k ?_ ?_ ?_⟩, fun i hi => ?_⟩
  · exact mm_mem_ne (k := 18) rfl hk
  · exact mm_mem_ne (k := 24) rfl hk
  · exact mm_mem_ne (k := 25) rfl hk
  · show L 24 i = _
    rw [hs i, if_neg (by omega)]
theorem RR_fw {a : AS} {s s' : RS} (h : RR a s) (hF : FW1 s s') : RR a s' := RR_fr h hF.1 rfl rfl rfl (fun i t hi ht => hF.2 _ (by omega))
theorem slotS_at {f a : Nat} {V : Nat → Int64} {old v : Int → Int64} (hb : fD f ≤ 256) (h : slotS f a V old v) {t : Nat} (ht : t < fD f) : v (256 * (a : Int) + t) = V t := by
  rw [h, if_pos (by omega), if_pos (by omega), show (256 * (a : Int) + t - 256 * (a : Int)).toNat = t by omega]
def T_X10_staysBy : Tr := fun av h N _ => ∃ (w : FW) (s : RS) (f p m : Nat) (V : Nat → Int64), av = [mR 1000, mI p, mI m] ∧ h = hR w s ∧ RQ f s ∧ p < 8 ∧ m ≤ 506 ∧ (∀ t, t < fD f → s.2.2 24 (256 * (p : Int) + t) = V t) ∧ ∀ s' : RS, FW1 s s' → N (some (mI (bi (sameV f (mvV f V m) V)))) (hR w s')
abbrev e_X10_staysBy : NE := (ftX10, [(330, (4, 0, 0, false, (0, 10), T_X10_move)), (396, (3, 0, 0, false, (0, 10), T_X10_isSame))], ltX10, [], [], false, 2, (0, 0), [], [], [], false)
theorem s_X10_staysBy : mm_Spec e_X10_staysBy kX10_staysBy 4 T_X10_staysBy := by
  rintro N X K av h hK ⟨w, s, f, p, m, V, rfl, rfl, hQ, hp, hm, hV, h2⟩
  have hf := hQ.1
  obtain ⟨b1, b2, b3, b4, b5, b6, b7, b8, b9, b10, b11, b12⟩ := fbase hf
  refine ⟨rfl, hK [] _ _ _ _ _ _ ?_⟩
  refine ⟨w, s, f, 32, p, m, rfl, rfl, hQ, by omega, by omega, hm, fun L hL hs => ?_⟩
  have hF := FW1_g (by omega) hL hs
  refine ⟨w, (s.1, s.2.1, L), f, 32, p, rfl, rfl, RQ_fr hQ hF.1 rfl rfl rfl, by omega, by omega, ?_⟩
  have h3 := h2 _ hF
  have e1 : ∀ t, t < fD f → L 24 (256 * ((32 : Nat) : Int) + t) = mvV f V m t := fun t ht => by
    rw [slotS_at (by omega) hs ht]
    exact mvV_congr hV m t
  have e2 : ∀ t : Nat, t < fD f → L 24 (256 * (p : Int) + t) = V t := fun t ht => (hF.2 (256 * (p : Int) + t) (by omega)).trans (hV t ht)
  have hbi : bi (sameV f (fun t => L 24 (256 * ((32 : Nat) : Int) + t)) (fun t => L 24 (256 * (p : Int) + t))) = bi (sameV f (mvV f V m) V) := by
    refine bi_iff ⟨fun h t ht => ?_, fun h t ht => ?_⟩
    · exact (e1 t ht).symm.trans ((h t ht).trans (e2 t ht))
    · exact (e1 t ht).trans ((h t ht).trans (e2 t ht).symm)
  rw [← hbi] at h3
  exact And.intro (bi_01 _) h3
theorem m_X10_staysBy (l : Launch) : mm_Met l yX10_staysBy cX10_staysBy 4 (some .boolean) 4 0 0 T_X10_staysBy := mm_met (E := e_X10_staysBy) (cd := kX10_staysBy) s_X10_staysBy (by decide) kX10_staysBy_ok (by decide +kernel) (by decide +kernel) (Or.inr (Or.inr (Or.inl ⟨rfl, rfl⟩))) rfl (mm_eok_X10 _) (mm_calls_cons (mm_cbv wi_X10_move (tb7 (i := 22) rfl rfl) (m_X10_move l) (by decide) (by decide) rfl) (mm_calls_cons (mm_cbv wi_X10_isSame (tb7 (i := 188) rfl rfl) (m_X10_isSame l) (by decide) (by decide) rfl) (mm_calls_nil)))
theorem mvV_1 {f : Nat} {V : Nat → Int64} (hf : f < 15) {t : Nat} (ht : t < fD f) : mvV f V 1 t = V t := by
  have hb := fbase hf
  unfold mvV
  rw [sumL_congr (g' := fun j => V j * (if t = j then 1 else 0)) _ (fun j hj => by rw [Nat.mul_one, Nat.mod_eq_of_lt (by omega), rho_low hf hj ht]), sumL_one, if_pos ht]
theorem stB_1 {f : Nat} {V : Nat → Int64} (hf : f < 15) : stB f V 1 = true := decide_eq_true ⟨Nat.gcd_one_left _, fun _ ht => mvV_1 hf ht⟩
def T_X10_unlike : Tr := fun av h N _ => ∃ (w : FW) (s : RS) (f p : Nat) (V : Nat → Int64), av = [mR 1000, mI p] ∧ h = hR w s ∧ RQ f s ∧ p < 8 ∧ (∀ t, t < fD f → s.2.2 24 (256 * (p : Int) + t) = V t) ∧ ∀ s' : RS, FW1 s s' → N (some (mI (fD f / cntB (stB f V) (fN f) : Nat))) (hR w s')
abbrev e_X10_unlike : NE := (ftX10, [(209, (2, 0, 0, false, (0, 10), T_X10_isMoving)), (399, (3, 0, 0, false, (0, 10), T_X10_staysBy))], ltX10, [], [], false, 1, (0, 0), [], [], [], false)
theorem s_X10_unlike : mm_Spec e_X10_unlike kX10_unlike 4 T_X10_unlike := by
  rintro N X K av h hK ⟨w, s, f, p, V, rfl, rfl, hQ, hp, hV, h2⟩
  have hf := hQ.1
  obtain ⟨b1, b2, b3, b4, b5, b6, b7, b8, b9, b10, b11, b12⟩ := fbase hf
  have loop : ∀ m : Nat, m ≤ fN f → ∀ s' : RS, FW1 s s' → K 4 [some (mR 1000), some (mI p), some (mI (cntB (stB f V) m : Nat)), some (mI m)] [] (hR w s') 0 0 := by
    refine mm_for (fN f) (fun s' hF => ?_) (fun m hm ih s' hF => ?_)
    · have hQ' := RQ_fr hQ hF.1 rfl rfl rfl
      have hn := hQ'.2.1
      have hc := cntB_pos (b := stB f V) (m := 1) (n := fN f) (by omega) (stB_1 hf)
      refine hK [4] _ _ _ _ _ _ ?_
      refine And.intro (fun _ => ?_) (fun q => absurd q (by omega))
      conv => whnf
      rw [hQ'.2.2.1]
      refine And.intro (dv_ok (by omega) (by omega)) ?_
      rw [tdn]
      exact h2 s' hF
    · have hQ' := RQ_fr hQ hF.1 rfl rfl rfl
      have hn := hQ'.2.1
      have hle := cntB_le (stB f V) m
      have hz : cntB (stB f V) (m + 1) = cntB (stB f V) m + (match stB f V m with | true => 1 | false => 0) := rfl
      rw [hz] at ih
      refine hK [4] _ _ _ _ _ _ ?_
      refine And.intro (fun q => absurd q (by omega)) (fun _ => ?_)
      refine ⟨w, s', m, fN f, rfl, rfl, rng_nat (by omega), hn, by omega, by omega, ?_⟩
      rw [Int.toNat_natCast]
      refine And.intro (fun q => ?_) (fun q => ?_)
      · have q := bi_c0 q
        have e : stB f V m = false := decide_eq_false (fun z => q ⟨by omega, by omega, z.1⟩)
        rw [e] at ih
        refine And.intro (rng_of (by omega) (by omega)) ?_
        refine And.intro (rng_of (by omega) (by omega)) ?_
        conv => whnf
        rw [Int.add_zero]
        exact ih s' hF
      · have q := bi_c1 q
        refine ⟨w, s', f, p, m, V, rfl, rfl, hQ', hp, by omega, fun t ht => (hF.2 _ (by omega)).trans (hV t ht), fun s2 hF2 => ?_⟩
        refine And.intro (fun q2 => ?_) (fun q2 => ?_)
        · have q2 := bi_c0 q2
          have e : stB f V m = false := decide_eq_false (fun z => q2 z.2)
          rw [e] at ih
          refine And.intro (rng_of (by omega) (by omega)) ?_
          refine And.intro (rng_of (by omega) (by omega)) ?_
          conv => whnf
          rw [Int.add_zero]
          exact ih s2 (FW1_tr hF hF2)
        · have q2 := bi_c1 q2
          have e : stB f V m = true := decide_eq_true ⟨q.2.2, q2⟩
          rw [e] at ih
          refine And.intro (rng_of (by omega) (by omega)) ?_
          refine And.intro (rng_of (by omega) (by omega)) ?_
          exact ih s2 (FW1_tr hF hF2)
  refine ⟨rfl, hK [4] _ _ _ _ _ _ ?_⟩
  exact loop 0 (by omega) s (FW1_rf s)
theorem m_X10_unlike (l : Launch) : mm_Met l yX10_unlike cX10_unlike 4 (some .int) 5 0 0 T_X10_unlike := mm_met (E := e_X10_unlike) (cd := kX10_unlike) s_X10_unlike (by decide) kX10_unlike_ok (by decide +kernel) (by decide +kernel) (Or.inr (Or.inl ⟨rfl, rfl⟩)) rfl (mm_eok_X10 _) (mm_calls_cons (mm_cbv wi_X10_isMoving (tb7 (i := 38) rfl rfl) (m_X10_isMoving l) (by decide) (by decide) rfl) (mm_calls_cons (mm_cbv wi_X10_staysBy (tb7 (i := 184) rfl rfl) (m_X10_staysBy l) (by decide) (by decide) rfl) (mm_calls_nil)))
def T_X10_leastMoving : Tr := fun av h N _ => ∃ (w : FW) (s : RS) (f p : Nat) (V : Nat → Int64), av = [mR 1000, mI p] ∧ h = hR w s ∧ RQ f s ∧ p < 8 ∧ (∀ t, t < fD f → s.2.2 24 (256 * (p : Int) + t) = V t) ∧ ∀ s' : RS, FW1 s s' → N (some (mI (lmX f V))) (hR w s')
abbrev e_X10_leastMoving : NE := (ftX10, [(209, (2, 0, 0, false, (0, 10), T_X10_isMoving)), (399, (3, 0, 0, false, (0, 10), T_X10_staysBy))], ltX10, [], [], false, 1, (0, 0), [], [], [], false)
theorem s_X10_leastMoving : mm_Spec e_X10_leastMoving kX10_leastMoving 3 T_X10_leastMoving := by
  rintro N X K av h hK ⟨w, s, f, p, V, rfl, rfl, hQ, hp, hV, h2⟩
  have hf := hQ.1
  obtain ⟨b1, b2, b3, b4, b5, b6, b7, b8, b9, b10, b11, b12⟩ := fbase hf
  have loop : ∀ m : Nat, m ≤ fN f → 2 ≤ m → ∀ s' : RS, FW1 s s' → (∀ j, 2 ≤ j → j < m → stB f V j = false) → K 2 [some (mR 1000), some (mI p), some (mI m)] [] (hR w s') 0 0 := by
    refine mm_for (fN f) (fun hm2 s' hF hall => ?_) (fun m hm ih hm2 s' hF hall => ?_)
    · have hQ' := RQ_fr hQ hF.1 rfl rfl rfl
      have hn := hQ'.2.1
      refine hK [2] _ _ _ _ _ _ ?_
      refine And.intro (fun _ => ?_) (fun q => absurd q (by omega))
      have h3 := h2 s' hF
      unfold lmX at h3
      rw [fst0_none (fN f - 2) 2 (fun j q1 q2 => hall j q1 (by omega)), if_neg (by omega)] at h3
      exact h3
    · have hQ' := RQ_fr hQ hF.1 rfl rfl rfl
      have hn := hQ'.2.1
      have hgo : stB f V m = false → ∀ s2 : RS, FW1 s s2 → K 2 [some (mR 1000), some (mI p), some (mI ((m : Int) + 1))] [] (hR w s2) 0 0 := fun e s2 hF2 => ih (by omega) s2 hF2 (fun j q1 q2 => by
        by_cases z : j = m
        · rw [z]; exact e
        · exact hall j q1 (by omega))
      refine hK [2] _ _ _ _ _ _ ?_
      refine And.intro (fun q => absurd q (by omega)) (fun _ => ?_)
      refine ⟨w, s', m, fN f, rfl, rfl, rng_nat (by omega), hn, by omega, by omega, ?_⟩
      rw [Int.toNat_natCast]
      refine And.intro (fun q => ?_) (fun q => ?_)
      · have q := bi_c0 q
        refine And.intro (rng_of (by omega) (by omega)) ?_
        exact hgo (decide_eq_false (fun z => q ⟨by omega, by omega, z.1⟩)) s' hF
      · have q := bi_c1 q
        refine ⟨w, s', f, p, m, V, rfl, rfl, hQ', hp, by omega, fun t ht => (hF.2 _ (by omega)).trans (hV t ht), fun s2 hF2 => ?_⟩
        refine And.intro (fun q2 => ?_) (fun q2 => ?_)
        · have q2 := bi_c0 q2
          refine And.intro (rng_of (by omega) (by omega)) ?_
          exact hgo (decide_eq_false (fun z => q2 z.2)) s2 (FW1_tr hF hF2)
        · have q2 := bi_c1 q2
          have h3 := h2 s2 (FW1_tr hF hF2)
          unfold lmX at h3
          rw [fst0_eq (m := m) (decide_eq_true ⟨q.2.2, q2⟩) (fN f - 2) 2 hm2 (by omega) hall, if_pos hm] at h3
          exact h3
  refine ⟨rfl, hK [2] _ _ _ _ _ _ ?_⟩
  by_cases q : 2 ≤ fN f
  · exact loop 2 q (by omega) s (FW1_rf s) (fun j q1 q2 => by omega)
  · omega
theorem m_X10_leastMoving (l : Launch) : mm_Met l yX10_leastMoving cX10_leastMoving 3 (some .int) 5 0 0 T_X10_leastMoving := mm_met (E := e_X10_leastMoving) (cd := kX10_leastMoving) s_X10_leastMoving (by decide) kX10_leastMoving_ok (by decide +kernel) (by decide +kernel) (Or.inr (Or.inl ⟨rfl, rfl⟩)) rfl (mm_eok_X10 _) (mm_calls_cons (mm_cbv wi_X10_isMoving (tb7 (i := 38) rfl rfl) (m_X10_isMoving l) (by decide) (by decide) rfl) (mm_calls_cons (mm_cbv wi_X10_staysBy (tb7 (i := 184) rfl rfl) (m_X10_staysBy l) (by decide) (by decide) rfl) (mm_calls_nil)))
def T_X10_allMoved : Tr := fun av h N _ => ∃ (w : FW) (s : RS) (f p : Nat) (V : Nat → Int64), av = [mR 1000, mI p] ∧ h = hR w s ∧ RQ f s ∧ p < 8 ∧ (∀ t, t < fD f → s.2.2 24 (256 * (p : Int) + t) = V t) ∧ ∀ s' : RS, FW1 s s' → N (some (mL (amV f V 0))) (hR w s')
abbrev e_X10_allMoved : NE := (ftX10, [(191, (1, 0, 0, false, (0, 10), T_X10_forget)), (209, (2, 0, 0, false, (0, 10), T_X10_isMoving)), (184, (2, 0, 0, false, (1, 0), T_X10_cell)), (194, (2, 0, 0, false, (0, 10), T_X10_take))], ltX10, [], [], false, 3, (0, 0), [], [], [], false)
set_option maxHeartbeats 4000000 in
theorem s_X10_allMoved : mm_Spec e_X10_allMoved kX10_allMoved 4 T_X10_allMoved := by
  rintro N X K av h hK ⟨w, s, f, p, V, rfl, rfl, hQ, hp, hV, h2⟩
  have hf := hQ.1
  have hn := hQ.2.1
  have hd := hQ.2.2.1
  obtain ⟨b1, b2, b3, b4, b5, b6, b7, b8, b9, b10, b11, b12⟩ := fbase hf
  have loopC : ∀ i : Nat, i ≤ fN f → ∀ (c ov : Int → Int64) (o3 : Option MV), (∀ t, t < fD f → cV f (fun e => ov (e : Int)) (fN f) t = amV f V t) → (∀ e : Nat, e < i → c (e : Int) = ov (e : Int)) → K 101 [some (mR 1000), some (mI p), some (mI i), o3] [] (hR w (sL (sL s 19 ov) 25 c)) 0 0 := by
    refine mm_for (fN f) (fun c ov o3 hov hc => ?_) (fun i hi ih c ov o3 hov hc => ?_)
    · have hn' : (sL (sL s 19 ov) 25 c).1 14 = (fN f : Nat) := hn
      refine hK [101] _ _ _ _ _ _ ?_
      refine And.intro (fun _ => ?_) (fun q => absurd q (by omega))
      refine ⟨w, sL (sL s 19 ov) 25 c, f, 32, rfl, rfl, hQ, by omega, fun r v hv => ?_⟩
      refine ⟨32, 0, rfl, by omega, by omega, by omega, by omega, ?_⟩
      refine And.intro (by omega) ?_
      have e0 : v (256 * ((32 : Nat) : Int) + ((0 : Nat) : Int)) = amV f V 0 := by
        rw [slotS_at (by omega) hv (by omega), ← hov 0 (by omega)]
        exact sumL_congr _ (fun e he => by show c (e : Int) * _ = ov (e : Int) * _; rw [hc e he])
      have h3 := h2 (sL (sL (sL (sL s 19 ov) 25 c) 18 r) 24 v) ⟨FR_L (FR_L (FR_L (FR_L (FR_rf s) rfl) rfl) rfl) rfl, fun i hi => by
        show v i = _
        rw [hv i, if_neg (by omega)]
        rfl⟩
      rw [← e0] at h3
      exact h3
    · have hn' : (sL (sL s 19 ov) 25 c).1 14 = (fN f : Nat) := hn
      refine hK [101] _ _ _ _ _ _ ?_
      refine And.intro (fun q => absurd q (by omega)) (fun _ => ?_)
      refine And.intro (by omega) ?_
      refine And.intro (by omega) ?_
      refine And.intro (rng_of (by omega) (by omega)) ?_
      refine ih (mm_updL c (i : Int) (ov (i : Int))) ov o3 hov (fun e he => ?_)
      unfold mm_updL
      by_cases q : e = i
      · rw [if_pos (by omega), q]
      · rw [if_neg (by omega)]
        exact hc e (by omega)
  have loopM : ∀ m : Nat, m ≤ fN f → ∀ (c ov : Int → Int64) (o3 : Option MV), (∀ t, t < fD f → cV f (fun e => ov (e : Int)) (fN f) t = sumL (fun m => if Nat.gcd m (fN f) = 1 then mvV f V m t else 0) m) → K 28 [some (mR 1000), some (mI p), some (mI m), o3] [] (hR w (sL (sL s 19 ov) 25 c)) 0 0 := by
    refine mm_for (fN f) (fun c ov o3 hov => ?_) (fun m hm ih c ov o3 hov => ?_)
    · have hn' : (sL (sL s 19 ov) 25 c).1 14 = (fN f : Nat) := hn
      refine hK [28, 101] _ _ _ _ _ _ ?_
      refine And.intro (fun _ => ?_) (fun q => absurd q (by omega))
      exact loopC 0 (by omega) c ov o3 hov (fun e he => by omega)
    · have hn' : (sL (sL s 19 ov) 25 c).1 14 = (fN f : Nat) := hn
      refine hK [28, 49] _ _ _ _ _ _ ?_
      refine And.intro (fun q => absurd q (by omega)) (fun _ => ?_)
      refine ⟨w, sL (sL s 19 ov) 25 c, m, fN f, rfl, rfl, rng_nat (by omega), hn, by omega, by omega, ?_⟩
      rw [Int.toNat_natCast]
      refine And.intro (fun q => ?_) (fun q => ?_)
      · have q := bi_c1 q
        have loopI : ∀ i : Nat, i ≤ fD f → ∀ ov : Int → Int64, (∀ t, t < fD f → cV f (fun e => ov (e : Int)) (fN f) t = sumL (fun m => if Nat.gcd m (fN f) = 1 then mvV f V m t else 0) m + sumL (fun i => V i * rho f (i * m % fN f) t) i) → K 49 [some (mR 1000), some (mI p), some (mI m), some (mI i)] [] (hR w (sL (sL s 19 ov) 25 c)) 0 0 := by
          refine mm_for (fD f) (fun ov hov => ?_) (fun i hi ihi ov hov => ?_)
          · have hd' : (sL (sL s 19 ov) 25 c).1 15 = (fD f : Nat) := hd
            refine hK [28, 49] _ _ _ _ _ _ ?_
            refine And.intro (fun _ => ?_) (fun q => absurd q (by omega))
            refine And.intro (rng_of (by omega) (by omega)) ?_
            refine ih c ov _ (fun t ht => ?_)
            rw [hov t ht]
            show _ = _ + (if Nat.gcd m (fN f) = 1 then mvV f V m t else 0)
            rw [if_pos q.2.2]
            rfl
          · have hd' : (sL (sL s 19 ov) 25 c).1 15 = (fD f : Nat) := hd
            have hmm : i * m ≤ 506 * 506 := Nat.mul_le_mul (by omega) (by omega)
            have hml := Nat.mod_lt (i * m) (show 0 < fN f by omega)
            refine hK [28, 49] _ _ _ _ _ _ ?_
            refine And.intro (fun q => absurd q (by omega)) (fun _ => ?_)
            conv => whnf
            rw [show (sL (sL s 19 ov) 25 c).1 14 = (fN f : Nat) from hn, ← Int64.ofInt_mul, cmul]
            refine And.intro (l_ne0 (by omega) (by omega)) ?_
            rw [lrem_nat (by omega) (by omega) (by omega)]
            refine And.intro (by rw [lti (by omega)]; exact rng_nat (by omega)) ?_
            rw [lti (by omega)]
            refine And.intro (by omega) ?_
            refine ⟨p, i, rfl, by omega, by omega, by omega, by omega, ?_⟩
            refine And.intro (by omega) ?_
            refine And.intro (by omega) ?_
            refine And.intro (rng_of (by omega) (by omega)) ?_
            conv => whnf
            refine ihi (mm_updL ov ((i * m % fN f : Nat) : Int) (ov ((i * m % fN f : Nat) : Int) + s.2.2 24 (256 * (p : Int) + i))) (fun t ht => ?_)
            rw [cV_upd' hml, hov t ht, hV i hi]
            show _ = _ + (sumL (fun i => V i * rho f (i * m % fN f) t) i + V i * rho f (i * m % fN f) t)
            grind
        refine loopI 0 (by omega) ov (fun t ht => ?_)
        rw [hov t ht]
        show _ = _ + 0
        simp
      · have q := bi_c0 q
        refine And.intro (rng_of (by omega) (by omega)) ?_
        refine ih c ov _ (fun t ht => ?_)
        rw [hov t ht]
        show _ = _ + (if Nat.gcd m (fN f) = 1 then mvV f V m t else 0)
        rw [if_neg (fun z => q ⟨by omega, by omega, z⟩)]
        simp
  have loopZ : ∀ i : Nat, i ≤ 512 → ∀ (c ov : Int → Int64), (∀ e : Nat, e < i → ov (e : Int) = 0) → K 6 [some (mR 1000), some (mI p), some (mI i), none] [] (hR w (sL (sL s 19 ov) 25 c)) 0 0 := by
    refine mm_for 512 (fun c ov hov => ?_) (fun i hi ih c ov hov => ?_)
    · refine hK [6, 28] _ _ _ _ _ _ ?_
      refine And.intro (fun _ => ?_) (fun q => absurd q (by omega))
      exact loopM 0 (by omega) c ov none (fun t ht => cV_zero (fun e he => hov e (by omega)))
    · refine hK [6, 28] _ _ _ _ _ _ ?_
      refine And.intro (fun q => absurd q (by omega)) (fun _ => ?_)
      refine And.intro (by omega) ?_
      refine And.intro (rng_of (by omega) (by omega)) ?_
      refine ih c (mm_updL ov (i : Int) 0) (fun e he => ?_)
      unfold mm_updL
      split
      · rfl
      · exact hov e (by omega)
  refine ⟨rfl, hK [6] _ _ _ _ _ _ ?_⟩
  refine ⟨w, s, rfl, rfl, fun c hc => ?_⟩
  exact loopZ 0 (by omega) c (s.2.2 19) (fun e he => by omega)
theorem m_X10_allMoved (l : Launch) : mm_Met l yX10_allMoved cX10_allMoved 4 (some .long) 3 0 0 T_X10_allMoved := mm_met (E := e_X10_allMoved) (cd := kX10_allMoved) s_X10_allMoved (by decide) kX10_allMoved_ok (by decide +kernel) (by decide +kernel) (Or.inr (Or.inr (Or.inr (Or.inl ⟨rfl, rfl⟩)))) rfl (mm_eok_X10 _) (mm_calls_cons (mm_cbv wi_X10_forget (tb7 (i := 4) rfl rfl) (m_X10_forget l) (by decide) (by decide) rfl) (mm_calls_cons (mm_cbv wi_X10_isMoving (tb7 (i := 38) rfl rfl) (m_X10_isMoving l) (by decide) (by decide) rfl) (mm_calls_cons (mm_cbs wi_X10_cell (tb5 (i := 238) rfl rfl) (m_X10_cell l) (by decide) (by decide) rfl) (mm_calls_cons (mm_cbv wi_X10_take (tb7 (i := 8) rfl rfl) (m_X10_take l) (by decide) (by decide) rfl) (mm_calls_nil)))))
theorem RPL_ok {w : FW} {a : AS} {r : Nat × Int64} {N : Option MV → HP → Prop} {s s' : RS} {v v' : Int64} (h : RPL w a r N) (hr : RR a s) (hF : FW1 (sI s 1 0) s') (hz : r = (0, v)) (e : v' = v) : N (some (mL v')) (hR w s') := by
  rw [hz] at h
  rw [e]
  exact h _ (RR_fw (s := sI s 1 0) hr hF) (hF.1.1 1 rfl)
def T_X10_of : Tr := fun av h N _ => ∃ (w : FW) (s : RS) (a : AS) (p o : Int), av = [mR 1000, mI p, mI o] ∧ h = hR w s ∧ RR a s ∧ mm_rng p ∧ mm_rng o ∧ RPL w a (xOf a p o) N
abbrev e_X10_of : NE := (ftX10, [(370, (1, 0, 0, false, (1, 0), T_X10_isPlace)), (162, (3, 0, 0, false, (1, 0), T_X10_isIn)), (373, (2, 0, 0, false, (0, 10), T_X10_fail)), (380, (2, 0, 0, false, (0, 10), T_X10_filled)), (404, (2, 0, 0, false, (0, 10), T_X10_isWhole)), (399, (3, 0, 0, false, (0, 10), T_X10_staysBy)), (407, (2, 0, 0, false, (0, 10), T_X10_unlike)), (410, (2, 0, 0, false, (0, 10), T_X10_allMoved)), (414, (2, 0, 0, false, (0, 10), T_X10_leastMoving))], ltX10, [], [], false, 3, (0, 0), [], [], [], false)
set_option maxHeartbeats 4000000 in
theorem s_X10_of : mm_Spec e_X10_of kX10_of 3 T_X10_of := by
  rintro N X K av h hK ⟨w, s, a, p, o, rfl, rfl, hr, hp, ho, h2⟩
  have hQ : RQ (aF a) (sI s 1 0) := hr.2.1.2.1
  have hn : (sI s 1 0).1 14 = (fN (aF a) : Nat) := hQ.2.1
  have hb := fbase hr.1.1
  have hno : ¬ (okP p ∧ 0 ≤ o ∧ o ≤ 5) → xOf a p o = (1, 0) := fun q => by unfold xOf; rw [if_neg q]
  have hfail : xOf a p o = (1, 0) → N (some (mL (Int64.ofInt 0))) (hR w (sI (sI s 1 0) 1 1)) := fun q => by
    rw [q] at h2
    exact h2 _ hr rfl
  refine ⟨rfl, hK [] _ _ _ _ _ _ ?_⟩
  refine ⟨p, rfl, hp, ?_⟩
  refine And.intro (fun q1 => ?_) (fun q1 => ?_)
  · have q1 := bi_c0 q1
    exact ⟨w, sI s 1 0, 1, rfl, rfl, hfail (hno (fun z => q1 z.1))⟩
  have q1 := bi_c1 q1
  refine ⟨_, _, _, rfl, ?_⟩
  rw [l_0, l_of ho, lc5]
  refine And.intro (fun q2 => ?_) (fun q2 => ?_)
  · have q2 := bi_c1 q2
    obtain ⟨pn, rfl⟩ := Int.eq_ofNat_of_zero_le q1.1
    have hV : ∀ t, t < fD (aF a) → (sI s 1 0).2.2 24 (256 * (pn : Int) + t) = vL (aP a pn) t := slot_of hr (by omega)
    have hx : ∀ v : Int64, (if o = 0 then Int64.ofInt (nzc (vL (aP a pn)) (fD (aF a)) : Nat) else if o = 1 then (if ∀ t, t < fD (aF a) → 1 ≤ t → aP a pn t = 0 then 1 else 0) else if o = 2 then (if sameV (aF a) (mvV (aF a) (vL (aP a pn)) (fN (aF a) - 1)) (vL (aP a pn)) then 1 else 0) else if o = 3 then Int64.ofInt (fD (aF a) / cntB (stB (aF a) (vL (aP a pn))) (fN (aF a)) : Nat) else if o = 4 then amV (aF a) (vL (aP a pn)) 0 else Int64.ofInt (lmX (aF a) (vL (aP a pn)))) = v → xOf a pn o = (0, v) := fun v hv => by
      unfold xOf
      rw [if_pos ⟨q1, q2⟩, Int.toNat_natCast, hv]
    refine And.intro (fun q => ?_) ?_
    · refine ⟨w, sI s 1 0, aF a, pn, vL (aP a pn), rfl, rfl, hQ, by omega, hV, fun s' hF => ?_⟩
      exact RPL_ok h2 hr hF (hx _ (by rw [if_neg (show ¬ o = 0 by omega), if_neg (show ¬ o = 1 by omega), if_neg (show ¬ o = 2 by omega), if_neg (show ¬ o = 3 by omega), if_neg (show ¬ o = 4 by omega)])) rfl
    refine And.intro (fun (q : o = 0) => ?_) ?_
    · subst q
      refine ⟨w, sI s 1 0, aF a, pn, rfl, rfl, hQ, by omega, ?_⟩
      rw [nzc_congr (fD (aF a)) hV]
      exact RPL_ok h2 hr (FW1_rf _) (hx _ rfl) rfl
    refine And.intro (fun (q : o = 1) => ?_) ?_
    · subst q
      refine ⟨w, sI s 1 0, aF a, pn, vL (aP a pn), rfl, rfl, hQ, by omega, hV, ?_⟩
      have heq : (∀ t, t < fD (aF a) → 1 ≤ t → vL (aP a pn) t = 0) ↔ ∀ t, t < fD (aF a) → 1 ≤ t → aP a pn t = 0 := by
        constructor
        · intro h t ht ht1
          have h3 := congrArg Int64.toInt (h t ht ht1)
          have hv2 := hr.1.2.1 pn t (by omega) ht
          rw [show vL (aP a pn) t = Int64.ofInt (aP a pn t) from rfl, l_of (rng_of (by omega) (by omega))] at h3
          exact h3
        · intro h t ht ht1
          show Int64.ofInt (aP a pn t) = 0
          rw [h t ht ht1]
          rfl
      refine And.intro (fun q => ?_) (fun q => ?_)
      · have q := bi_c0 q
        exact RPL_ok h2 hr (FW1_rf _) (hx _ (by rw [if_neg (by decide), if_pos rfl, if_neg (fun z => q (heq.mpr z))])) lc0
      · have q := bi_c1 q
        exact RPL_ok h2 hr (FW1_rf _) (hx _ (by rw [if_neg (by decide), if_pos rfl, if_pos (heq.mp q)])) lc1
    refine And.intro (fun (q : o = 2) => ?_) ?_
    · subst q
      conv => whnf
      rw [show s.1 14 = (fN (aF a) : Nat) from hn]
      refine And.intro (rng_of (by omega) (by omega)) ?_
      refine ⟨w, sI s 1 0, aF a, pn, fN (aF a) - 1, vL (aP a pn), by show [mR 1000, mI (pn : Int), mI ((fN (aF a) : Int) - 1)] = _; rw [show (fN (aF a) : Int) - 1 = ((fN (aF a) - 1 : Nat) : Int) by omega], rfl, hQ, by omega, by omega, hV, fun s' hF => ?_⟩
      refine And.intro (fun q => ?_) (fun q => ?_)
      · have q := bi_c0 q
        exact RPL_ok h2 hr hF (hx _ (by rw [if_neg (by decide), if_neg (by decide), if_pos rfl, if_neg q])) lc0
      · have q := bi_c1 q
        exact RPL_ok h2 hr hF (hx _ (by rw [if_neg (by decide), if_neg (by decide), if_pos rfl, if_pos q])) lc1
    refine And.intro (fun (q : o = 3) => ?_) ?_
    · subst q
      refine ⟨w, sI s 1 0, aF a, pn, vL (aP a pn), rfl, rfl, hQ, by omega, hV, fun s' hF => ?_⟩
      exact RPL_ok h2 hr hF (hx _ rfl) rfl
    refine And.intro (fun (q : o = 4) => ?_) ?_
    · subst q
      refine ⟨w, sI s 1 0, aF a, pn, vL (aP a pn), rfl, rfl, hQ, by omega, hV, fun s' hF => ?_⟩
      exact RPL_ok h2 hr hF (hx _ rfl) rfl
    trivial
  · have q2 := bi_c0 q2
    exact ⟨w, sI s 1 0, 1, rfl, rfl, hfail (hno (fun z => q2 z.2))⟩
theorem m_X10_of (l : Launch) : mm_Met l yX10_of cX10_of 3 (some .long) 6 0 0 T_X10_of := mm_met (E := e_X10_of) (cd := kX10_of) s_X10_of (by decide) kX10_of_ok (by decide +kernel) (by decide +kernel) (Or.inr (Or.inr (Or.inr (Or.inl ⟨rfl, rfl⟩)))) rfl (mm_eok_X10 _) (mm_calls_cons (mm_cbs wi_X10_isPlace (tb6 (i := 173) rfl rfl) (m_X10_isPlace l) (by decide) (by decide) rfl) (mm_calls_cons (mm_cbs wi_X10_isIn (tb6 (i := 177) rfl rfl) (m_X10_isIn l) (by decide) (by decide) rfl) (mm_calls_cons (mm_cbv wi_X10_fail (tb6 (i := 180) rfl rfl) (m_X10_fail l) (by decide) (by decide) rfl) (mm_calls_cons (mm_cbv wi_X10_filled (tb7 (i := 121) rfl rfl) (m_X10_filled l) (by decide) (by decide) rfl) (mm_calls_cons (mm_cbv wi_X10_isWhole (tb7 (i := 180) rfl rfl) (m_X10_isWhole l) (by decide) (by decide) rfl) (mm_calls_cons (mm_cbv wi_X10_staysBy (tb7 (i := 184) rfl rfl) (m_X10_staysBy l) (by decide) (by decide) rfl) (mm_calls_cons (mm_cbv wi_X10_unlike (tb7 (i := 192) rfl rfl) (m_X10_unlike l) (by decide) (by decide) rfl) (mm_calls_cons (mm_cbv wi_X10_allMoved (tb7 (i := 196) rfl rfl) (m_X10_allMoved l) (by decide) (by decide) rfl) (mm_calls_cons (mm_cbv wi_X10_leastMoving (tb7 (i := 200) rfl rfl) (m_X10_leastMoving l) (by decide) (by decide) rfl) (mm_calls_nil))))))))))
def T_X10_same : Tr := fun av h N _ => ∃ (w : FW) (s : RS) (a : AS) (i j : Int), av = [mR 1000, mI i, mI j] ∧ h = hR w s ∧ RR a s ∧ mm_rng i ∧ mm_rng j ∧ RP w a (xSame a i j) N
abbrev e_X10_same : NE := (ftX10, [(370, (1, 0, 0, false, (1, 0), T_X10_isPlace)), (396, (3, 0, 0, false, (0, 10), T_X10_isSame))], ltX10, [], [], false, 2, (0, 0), [], [], [], false)
theorem s_X10_same : mm_Spec e_X10_same kX10_same 3 T_X10_same := by
  rintro N X K av h hK ⟨w, s, a, i, j, rfl, rfl, hr, hi, hj, h2⟩
  have hQ : RQ (aF a) (sI s 1 0) := hr.2.1.2.1
  have hfail : ¬ (okP i ∧ okP j) → N (some (mI 0)) (hR w (sI s 1 1)) := fun q => by
    have e : xSame a i j = (1, 0) := by unfold xSame; rw [if_neg q]
    rw [e] at h2
    exact h2 _ hr rfl
  refine ⟨rfl, hK [] _ _ _ _ _ _ ?_⟩
  refine ⟨i, rfl, hi, ?_⟩
  refine And.intro (fun q1 => ?_) (fun q1 => ?_)
  · have q1 := bi_c0 q1
    refine And.intro (fun _ => ?_) (fun q => absurd q (by omega))
    exact And.intro (Or.inl rfl) (hfail (fun z => q1 z.1))
  have q1 := bi_c1 q1
  refine ⟨j, rfl, hj, ?_⟩
  refine And.intro (fun q2 => ?_) (fun q2 => ?_)
  · have q2 := bi_c0 q2
    refine And.intro (fun _ => ?_) (fun q => absurd q (by omega))
    exact And.intro (Or.inl rfl) (hfail (fun z => q2 z.2))
  have q2 := bi_c1 q2
  obtain ⟨m, rfl⟩ := Int.eq_ofNat_of_zero_le q1.1
  obtain ⟨n, rfl⟩ := Int.eq_ofNat_of_zero_le q2.1
  have hVm : ∀ t, t < fD (aF a) → s.2.2 24 (256 * (m : Int) + t) = vL (aP a m) t := slot_of hr (by omega)
  have hVn : ∀ t, t < fD (aF a) → s.2.2 24 (256 * (n : Int) + t) = vL (aP a n) t := slot_of hr (by omega)
  refine And.intro (fun q => absurd q (by omega)) (fun _ => ?_)
  refine ⟨w, sI s 1 0, aF a, m, n, rfl, rfl, hQ, by omega, by omega, ?_⟩
  refine And.intro (fun q => ?_) (fun q => ?_)
  · have q := bi_c0 q
    refine And.intro (Or.inl rfl) (RP_ok h2 hr (v := 0) ?_ rfl)
    unfold xSame
    rw [if_pos ⟨q1, q2⟩, if_neg (fun z => q (fun t ht => (hVm t ht).trans ((z t ht).trans (hVn t ht).symm)))]
  · have q := bi_c1 q
    refine And.intro (Or.inr rfl) (RP_ok h2 hr (v := 1) ?_ rfl)
    unfold xSame
    rw [if_pos ⟨q1, q2⟩, Int.toNat_natCast, Int.toNat_natCast, if_pos (show sameV (aF a) (vL (aP a m)) (vL (aP a n)) from fun t ht => (hVm t ht).symm.trans ((q t ht).trans (hVn t ht)))]
theorem m_X10_same (l : Launch) : mm_Met l yX10_same cX10_same 3 (some .boolean) 2 0 0 T_X10_same := mm_met (E := e_X10_same) (cd := kX10_same) s_X10_same (by decide) kX10_same_ok (by decide +kernel) (by decide +kernel) (Or.inr (Or.inr (Or.inl ⟨rfl, rfl⟩))) rfl (mm_eok_X10 _) (mm_calls_cons (mm_cbs wi_X10_isPlace (tb6 (i := 173) rfl rfl) (m_X10_isPlace l) (by decide) (by decide) rfl) (mm_calls_cons (mm_cbv wi_X10_isSame (tb7 (i := 188) rfl rfl) (m_X10_isSame l) (by decide) (by decide) rfl) (mm_calls_nil)))
def T_X10_canMake : Tr := fun av h N _ => ∃ (w : FW) (s : RS) (a : AS) (o x y z : Int), av = [mR 1000, mI o, mI x, mI y, mI z] ∧ h = hR w s ∧ RR a s ∧ mm_rng x ∧ mm_rng y ∧ mm_rng z ∧ N (some (mI (bi (canM (aF a) o x y z)))) h
abbrev e_X10_canMake : NE := (ftX10, [(393, (2, 0, 0, false, (0, 10), T_X10_isCharacter)), (387, (2, 0, 0, false, (0, 10), T_X10_isElement)), (345, (3, 0, 0, false, (0, 10), T_X10_isClass)), (370, (1, 0, 0, false, (1, 0), T_X10_isPlace)), (209, (2, 0, 0, false, (0, 10), T_X10_isMoving)), (162, (3, 0, 0, false, (1, 0), T_X10_isIn))], ltX10, [], [], false, 2, (0, 0), [], [], [], false)
theorem s_X10_canMake : mm_Spec e_X10_canMake kX10_canMake 5 T_X10_canMake := by
  rintro N X K av h hK ⟨w, s, a, o, x, y, z, rfl, rfl, hr, hx, hy, hz, h2⟩
  have hT := hr.2.1.1
  have hQ := hr.2.1.2.1
  have hq := hT.2.2.2.1
  have hb := fbase hr.1.1
  have no : ¬ canM (aF a) o x y z → ((0 : Int) = 0 ∨ (0 : Int) = 1) ∧ N (some (mI 0)) (hR w s) := fun q => by
    rw [bi_f q] at h2
    exact ⟨Or.inl rfl, h2⟩
  have ye : canM (aF a) o x y z → ((1 : Int) = 0 ∨ (1 : Int) = 1) ∧ N (some (mI 1)) (hR w s) := fun q => by
    rw [bi_t q] at h2
    exact ⟨Or.inr rfl, h2⟩
  have eq : ∀ (c : Prop) [Decidable c], (c ↔ canM (aF a) o x y z) → (bi c = 0 ∨ bi c = 1) ∧ N (some (mI (bi c))) (hR w s) := fun c _ hc => by
    rw [bi_iff hc]
    exact ⟨bi_01 _, h2⟩
  refine ⟨rfl, hK [] _ _ _ _ _ _ ?_⟩
  refine And.intro (fun q => ?_) ?_
  · exact no (by unfold canM; omega)
  refine And.intro (fun (q : o = 0) => ?_) ?_
  · refine ⟨w, s, x, fQ (aF a), rfl, rfl, hx, hq, by omega, ?_⟩
    refine And.intro (fun q1 => no ?_) (fun q1 => ?_)
    · have q1 := bi_c0 q1
      unfold canM; omega
    have q1 := bi_c1 q1
    refine ⟨w, s, y, fQ (aF a), rfl, rfl, hy, hq, by omega, ?_⟩
    refine And.intro (fun q2 => no ?_) (fun q2 => ye ?_)
    · have q2 := bi_c0 q2
      unfold canM; omega
    · exact Or.inl ⟨q, q1, bi_c1 q2⟩
  refine And.intro (fun (q : o = 1) => ?_) ?_
  · refine ⟨w, s, x, fQ (aF a), rfl, rfl, hx, hq, by omega, ?_⟩
    refine And.intro (fun q1 => no ?_) (fun q1 => ?_)
    · have q1 := bi_c0 q1
      unfold canM; omega
    have q1 := bi_c1 q1
    refine ⟨w, s, y, fQ (aF a), rfl, rfl, hy, hq, by omega, ?_⟩
    refine And.intro (fun q2 => no ?_) (fun q2 => ?_)
    · have q2 := bi_c0 q2
      unfold canM; omega
    have q2 := bi_c1 q2
    refine ⟨w, s, z, fQ (aF a), rfl, rfl, hz, hq, by omega, ?_⟩
    refine And.intro (fun q3 => no ?_) (fun q3 => ye ?_)
    · have q3 := bi_c0 q3
      unfold canM; omega
    · exact Or.inr (Or.inl ⟨q, q1, q2, bi_c1 q3⟩)
  refine And.intro (fun (q : o = 2) => ?_) ?_
  · refine ⟨w, s, x, fQ (aF a), rfl, rfl, hx, hq, by omega, ?_⟩
    refine And.intro (fun q1 => no ?_) (fun q1 => ?_)
    · have q1 := bi_c0 q1
      unfold canM; omega
    have q1 := bi_c1 q1
    refine ⟨w, s, y, fQ (aF a), rfl, rfl, hy, hq, by omega, ?_⟩
    refine And.intro (fun q2 => no ?_) (fun q2 => ye ?_)
    · have q2 := bi_c0 q2
      unfold canM; omega
    · exact Or.inr (Or.inr (Or.inl ⟨q, q1, bi_c1 q2⟩))
  refine And.intro (fun (q : o = 3) => ?_) ?_
  · refine ⟨w, s, x, y, fQ (aF a), rfl, rfl, hx, hy, hq, by omega, by omega, eq _ ?_⟩
    constructor
    · intro h; exact Or.inr (Or.inr (Or.inr (Or.inl ⟨q, h⟩)))
    · intro h
      rcases h with h | h | h | h | h | h | h | h
      · omega
      · omega
      · omega
      · exact h.2
      all_goals (have := h.1; omega)
  refine And.intro (fun (q : o = 4) => ?_) ?_
  · refine ⟨x, rfl, hx, ?_⟩
    refine And.intro (fun q1 => no ?_) (fun q1 => ?_)
    · have q1 := bi_c0 q1
      intro h
      rcases h with h | h | h | h | h | h | h | h
      all_goals first | exact q1 h.2.1 | (have := h.1; omega)
    have q1 := bi_c1 q1
    refine ⟨w, s, y, fN (aF a), rfl, rfl, hy, hQ.2.1, by omega, by omega, ?_⟩
    refine And.intro (fun q2 => no ?_) (fun q2 => ye ?_)
    · have q2 := bi_c0 q2
      intro h
      rcases h with h | h | h | h | h | h | h | h
      all_goals first | exact q2 h.2.2 | (have := h.1; omega)
    · exact Or.inr (Or.inr (Or.inr (Or.inr (Or.inl ⟨q, q1, bi_c1 q2⟩))))
  refine And.intro (fun (q : o = 5) => ?_) ?_
  · exact ⟨w, s, x, fQ (aF a), rfl, rfl, hx, hq, by omega, eq _ (by unfold canM; omega)⟩
  refine And.intro (fun (q : o = 6) => ?_) ?_
  · exact ⟨w, s, x, fQ (aF a), rfl, rfl, hx, hq, by omega, eq _ (by unfold canM; omega)⟩
  refine And.intro (fun (q : o = 7) => ?_) ?_
  · conv => whnf
    rw [hQ.2.1]
    refine And.intro (rng_of (by omega) (by omega)) ?_
    refine ⟨_, _, _, rfl, ?_⟩
    rw [l_0, l_of hx, l_of (rng_of (by omega) (by omega))]
    exact eq _ (by unfold canM; omega)
  trivial
theorem m_X10_canMake (l : Launch) : mm_Met l yX10_canMake cX10_canMake 5 (some .boolean) 2 0 0 T_X10_canMake := mm_met (E := e_X10_canMake) (cd := kX10_canMake) s_X10_canMake (by decide) kX10_canMake_ok (by decide +kernel) (by decide +kernel) (Or.inr (Or.inr (Or.inl ⟨rfl, rfl⟩))) rfl (mm_eok_X10 _) (mm_calls_cons (mm_cbv wi_X10_isCharacter (tb7 (i := 163) rfl rfl) (m_X10_isCharacter l) (by decide) (by decide) rfl) (mm_calls_cons (mm_cbv wi_X10_isElement (tb7 (i := 143) rfl rfl) (m_X10_isElement l) (by decide) (by decide) rfl) (mm_calls_cons (mm_cbv wi_X10_isClass (tb7 (i := 69) rfl rfl) (m_X10_isClass l) (by decide) (by decide) rfl) (mm_calls_cons (mm_cbs wi_X10_isPlace (tb6 (i := 173) rfl rfl) (m_X10_isPlace l) (by decide) (by decide) rfl) (mm_calls_cons (mm_cbv wi_X10_isMoving (tb7 (i := 38) rfl rfl) (m_X10_isMoving l) (by decide) (by decide) rfl) (mm_calls_cons (mm_cbs wi_X10_isIn (tb6 (i := 177) rfl rfl) (m_X10_isIn l) (by decide) (by decide) rfl) (mm_calls_nil)))))))
