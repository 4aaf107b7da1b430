/-! the reference: characters, waves, sums over elements -/
def T_X10_characterOf : Tr := fun av h N _ => ∃ (w : FW) (s : RS) (f j x : Nat), av = [mR 1000, mI j, mI x] ∧ h = hR w s ∧ RA f s ∧ j < 27 ∧ x < fQ f ∧ N (some (mI (chI f j x))) h
abbrev e_X10_characterOf : NE := (ftX10, [], ltX10, [], [], false, 1, (0, 0), [], [], [], false)
theorem s_X10_characterOf : mm_Spec e_X10_characterOf kX10_characterOf 3 T_X10_characterOf := by
  rintro N X K av h hK ⟨w, s, f, j, x, rfl, rfl, ⟨hT, hQ, hneg, hlog, htr⟩, hj, hx, h2⟩
  have hf := hT.1
  obtain ⟨b1, b2, b3, b4, b5, b6, b7, b8, b9, b10, b11, b12⟩ := fbase hf
  refine ⟨rfl, hK [] _ _ _ _ _ _ ?_⟩
  refine And.intro (fun q => ?_) (fun q => ?_)
  · refine And.intro (by omega) ?_
    have hlt := flog_lt hf hx
    have hm1 : fP f * flog f x ≤ 23 * 27 := Nat.mul_le_mul b3 (by omega)
    have hm2 : fP f * flog f x * j ≤ 23 * 27 * 27 := Nat.mul_le_mul hm1 (by omega)
    conv => whnf
    rw [hT.2.1, hlog x (by omega) hx, hQ.2.1, ← Int64.ofInt_mul, cmul, ← Int64.ofInt_mul, cmul]
    refine And.intro (l_ne0 (by omega) (by omega)) ?_
    rw [lrem_nat (by omega) (by omega) (by omega)]
    have hm := Nat.mod_lt (fP f * flog f x * j) (show 0 < fN f by omega)
    refine And.intro (by rw [lti (by omega)]; exact rng_nat (by omega)) ?_
    rw [lti (by omega)]
    have e : chE f j x = some (fP f * flog f x * j % fN f) := by unfold chE; rw [if_neg (by omega)]
    rw [chI_some e] at h2
    exact h2
  · have ex : x = 0 := by omega
    subst ex
    refine And.intro (fun q2 => ?_) (fun q2 => ?_)
    · have e : chE f j 0 = none := by unfold chE; rw [if_pos rfl, if_neg (by omega)]
      rw [chI_none e] at h2
      exact h2
    · have e : chE f j 0 = some 0 := by unfold chE; rw [if_pos rfl, if_pos (by omega)]
      rw [chI_some e] at h2
      exact h2
theorem m_X10_characterOf (l : Launch) : mm_Met l yX10_characterOf cX10_characterOf 3 (some .int) 0 0 0 T_X10_characterOf := mm_met (E := e_X10_characterOf) (cd := kX10_characterOf) s_X10_characterOf (by decide) kX10_characterOf_ok (by decide +kernel) (by decide +kernel) (Or.inr (Or.inl ⟨rfl, rfl⟩)) rfl (mm_eok_X10 _) (mm_calls_nil)
def T_X10_waveOf : Tr := fun av h N _ => ∃ (w : FW) (s : RS) (f x : Nat), av = [mR 1000, mI x] ∧ h = hR w s ∧ RA f s ∧ x < fQ f ∧ N (some (mI (wvE f x : Nat))) h
abbrev e_X10_waveOf : NE := (ftX10, [], ltX10, [], [], false, 1, (0, 0), [], [], [], false)
theorem s_X10_waveOf : mm_Spec e_X10_waveOf kX10_waveOf 2 T_X10_waveOf := by
  rintro N X K av h hK ⟨w, s, f, x, rfl, rfl, ⟨hT, hQ, hneg, hlog, htr⟩, hx, h2⟩
  have hf := hT.1
  obtain ⟨b1, b2, b3, b4, b5, b6, b7, b8, b9, b10, b11, b12⟩ := fbase hf
  have hw := wv_lt hf hx
  refine ⟨rfl, hK [] _ _ _ _ _ _ ?_⟩
  conv => whnf
  rw [hT.2.2.2.1]
  refine And.intro (rng_of (by omega) (by omega)) ?_
  refine And.intro (by omega) ?_
  conv => whnf
  rw [htr x hx, show ((fQ f : Nat) : Int) - 1 = ((fQ f - 1 : Nat) : Int) by omega, cmul]
  refine And.intro (rng_nat (by show wvE f x < _; omega)) ?_
  conv => whnf
  rw [hQ.2.1]
  refine And.intro (dv_ok (by omega) (by show wvE f x < _; omega)) ?_
  rw [tmn, show (fQ f - 1) * ftr f x % fN f = wvE f x from Nat.mod_eq_of_lt hw]
  exact h2
theorem m_X10_waveOf (l : Launch) : mm_Met l yX10_waveOf cX10_waveOf 2 (some .int) 0 0 0 T_X10_waveOf := mm_met (E := e_X10_waveOf) (cd := kX10_waveOf) s_X10_waveOf (by decide) kX10_waveOf_ok (by decide +kernel) (by decide +kernel) (Or.inr (Or.inl ⟨rfl, rfl⟩)) rfl (mm_eok_X10 _) (mm_calls_nil)
def T_X10_gauss : Tr := fun av h N _ => ∃ (w : FW) (s : RS) (f o j a : Nat), av = [mR 1000, mI o, mI j, mI a] ∧ h = hR w s ∧ RA f s ∧ o ≤ 34 ∧ j < 27 ∧ a < fQ f ∧ gPost w s f o (gauV f j a) N
abbrev e_X10_gauss : NE := (ftX10, [(191, (1, 0, 0, false, (0, 10), T_X10_forget)), (200, (3, 0, 0, false, (0, 10), T_X10_characterOf)), (126, (3, 0, 0, false, (0, 10), T_X10_productOf)), (203, (2, 0, 0, false, (0, 10), T_X10_waveOf)), (197, (3, 0, 0, false, (0, 10), T_X10_counts)), (194, (2, 0, 0, false, (0, 10), T_X10_take))], ltX10, [], [], false, 2, (0, 0), [], [], [], false)
theorem s_X10_gauss : mm_Spec e_X10_gauss kX10_gauss 6 T_X10_gauss := by
  rintro N X K av h hK ⟨w, s, f, o, j, a, rfl, rfl, hA, ho, hj, ha, h2⟩
  have hT := hA.1
  have hQ := hA.2.1
  have hf := hT.1
  obtain ⟨b1, b2, b3, b4, b5, b6, b7, b8, b9, b10, b11, b12⟩ := fbase hf
  have loop : ∀ x : Nat, x ≤ fQ f → ∀ (c : Int → Int64) (o5 : Option MV), (∀ t, t < fD f → cV f (fun e => c (e : Int)) (fN f) t = sumL (fun x => tv f (gauT f j a x) t) x) → K 7 [some (mR 1000), some (mI o), some (mI j), some (mI a), some (mI x), o5] [] (hR w (sL s 25 c)) 0 0 := by
    refine mm_for (fQ f) (fun c o5 hc => ?_) (fun x hx ih c o5 hc => ?_)
    · refine hK [7] _ _ _ _ _ _ ?_
      conv => whnf
      rw [show (sL s 25 c).1 4 = (fQ f : Int) from hT.2.2.2.1]
      refine And.intro (fun _ => ?_) (fun q => absurd q (by omega))
      exact ⟨w, sL s 25 c, f, o, rfl, rfl, hQ, ho, fun r v hv => And.intro (bi_01 _) (gPost_fin h2 (fun t ht => hc t ht) hv)⟩
    · refine hK [7] _ _ _ _ _ _ ?_
      conv => whnf
      rw [show (sL s 25 c).1 4 = (fQ f : Int) from hT.2.2.2.1]
      refine And.intro (fun q => absurd q (by omega)) (fun _ => ?_)
      refine ⟨w, sL s 25 c, f, j, x, rfl, rfl, hA, hj, hx, ?_⟩
      cases hch : chE f j x with
      | none =>
        rw [chI_none hch]
        refine And.intro (fun _ => ?_) (fun q => absurd rfl q)
        refine And.intro (rng_of (by omega) (by omega)) ?_
        refine ih c _ (fun t ht => ?_)
        rw [hc t ht]
        show _ = _ + tv f (gauT f j a x) t
        rw [show gauT f j a x = none by unfold gauT; rw [hch]]
        show _ = _ + 0
        simp
      | some e =>
        rw [chI_some hch]
        have he := ch_lt hf hch
        refine And.intro (fun q => absurd q (by omega)) (fun _ => ?_)
        refine ⟨w, sL s 25 c, a, x, rfl, rfl, ⟨by omega, by omega, by omega, by omega⟩, ?_⟩
        refine ⟨w, sL s 25 c, f, fprd f a x, by show [mR 1000, mI ((sL s 25 c).2.1 8 (27 * (a : Int) + x))] = _; rw [show (sL s 25 c).2.1 8 (27 * (a : Int) + x) = _ from hT.2.2.2.2.2 a x ha hx], rfl, hA, fprd_lt hf ha hx, ?_⟩
        have hwv := wv_lt hf (fprd_lt hf ha hx)
        conv => whnf
        rw [cadd]
        refine And.intro (rng_nat (by omega)) ?_
        refine ⟨w, sL s 25 c, e + wvE f (fprd f a x), fN f, 1, rfl, rfl, by omega, hQ.2.1, by omega, by omega, ?_⟩
        refine And.intro (rng_of (by omega) (by omega)) ?_
        refine ih (mm_updL c (((e + wvE f (fprd f a x)) % fN f : Nat) : Int) (c (((e + wvE f (fprd f a x)) % fN f : Nat) : Int) + 1)) _ (fun t ht => ?_)
        rw [cV_upd' (Nat.mod_lt _ (by omega)), hc t ht]
        show _ = _ + tv f (gauT f j a x) t
        rw [show gauT f j a x = some (1, e + wvE f (fprd f a x)) by unfold gauT; rw [hch]]
        rfl
  refine ⟨rfl, hK [7] _ _ _ _ _ _ ?_⟩
  refine ⟨w, s, rfl, rfl, fun c hc => ?_⟩
  exact loop 0 (by omega) c none (fun t ht => cV_zero (fun e he => hc e (by omega)))
theorem m_X10_gauss (l : Launch) : mm_Met l yX10_gauss cX10_gauss 6 (some .boolean) 3 0 0 T_X10_gauss := mm_met (E := e_X10_gauss) (cd := kX10_gauss) s_X10_gauss (by decide) kX10_gauss_ok (by decide +kernel) (by decide +kernel) (Or.inr (Or.inr (Or.inl ⟨rfl, rfl⟩))) rfl (mm_eok_X10 _) (mm_calls_cons (mm_cbv wi_X10_forget (tb7 (i := 4) rfl rfl) (m_X10_forget l) (by decide) (by decide) rfl) (mm_calls_cons (mm_cbv wi_X10_characterOf (tb7 (i := 97) rfl rfl) (m_X10_characterOf l) (by decide) (by decide) rfl) (mm_calls_cons (mm_cbv wi_X10_productOf (tb5 (i := 213) rfl rfl) (m_X10_productOf l) (by decide) (by decide) rfl) (mm_calls_cons (mm_cbv wi_X10_waveOf (tb7 (i := 77) rfl rfl) (m_X10_waveOf l) (by decide) (by decide) rfl) (mm_calls_cons (mm_cbv wi_X10_counts (tb7 (i := 26) rfl rfl) (m_X10_counts l) (by decide) (by decide) rfl) (mm_calls_cons (mm_cbv wi_X10_take (tb7 (i := 8) rfl rfl) (m_X10_take l) (by decide) (by decide) rfl) (mm_calls_nil)))))))
def T_X10_jacobi : Tr := fun av h N _ => ∃ (w : FW) (s : RS) (f o i j c : Nat), av = [mR 1000, mI o, mI i, mI j, mI c] ∧ h = hR w s ∧ RA f s ∧ o ≤ 34 ∧ i < 27 ∧ j < 27 ∧ c < fQ f ∧ gPost w s f o (jacV f i j c) N
abbrev e_X10_jacobi : NE := (ftX10, [(191, (1, 0, 0, false, (0, 10), T_X10_forget)), (200, (3, 0, 0, false, (0, 10), T_X10_characterOf)), (139, (3, 0, 0, false, (0, 10), T_X10_sumOf)), (197, (3, 0, 0, false, (0, 10), T_X10_counts)), (194, (2, 0, 0, false, (0, 10), T_X10_take))], ltX10, [], [], false, 2, (0, 0), [], [], [], false)
set_option maxHeartbeats 4000000 in
theorem s_X10_jacobi : mm_Spec e_X10_jacobi kX10_jacobi 8 T_X10_jacobi := by
  rintro N X K av h hK ⟨w, s, f, o, i, j, a, rfl, rfl, hA, ho, hi, hj, ha, h2⟩
  have hT := hA.1
  have hQ := hA.2.1
  have hf := hT.1
  obtain ⟨b1, b2, b3, b4, b5, b6, b7, b8, b9, b10, b11, b12⟩ := fbase hf
  have loop : ∀ x : Nat, x ≤ fQ f → ∀ (c : Int → Int64) (o6 o7 : Option MV), (∀ t, t < fD f → cV f (fun e => c (e : Int)) (fN f) t = sumL (fun x => tv f (jacT f i j a x) t) x) → K 7 [some (mR 1000), some (mI o), some (mI i), some (mI j), some (mI a), some (mI x), o6, o7] [] (hR w (sL s 25 c)) 0 0 := by
    refine mm_for (fQ f) (fun c o6 o7 hc => ?_) (fun x hx ih c o6 o7 hc => ?_)
    · refine hK [7] _ _ _ _ _ _ ?_
      conv => whnf
      rw [show (sL s 25 c).1 4 = (fQ f : Int) from hT.2.2.2.1]
      refine And.intro (fun _ => ?_) (fun q => absurd q (by omega))
      exact ⟨w, sL s 25 c, f, o, rfl, rfl, hQ, ho, fun r v hv => And.intro (bi_01 _) (gPost_fin h2 (fun t ht => hc t ht) hv)⟩
    · have hnx := fneg_lt hf hx
      refine hK [7] _ _ _ _ _ _ ?_
      conv => whnf
      rw [show (sL s 25 c).1 4 = (fQ f : Int) from hT.2.2.2.1]
      refine And.intro (fun q => absurd q (by omega)) (fun _ => ?_)
      refine ⟨w, sL s 25 c, f, i, x, rfl, rfl, hA, hi, hx, ?_⟩
      refine And.intro (by omega) ?_
      refine ⟨w, sL s 25 c, a, fneg f x, by show [mR 1000, mI (a : Int), mI ((sL s 25 c).2.1 9 (x : Int))] = _; rw [show (sL s 25 c).2.1 9 (x : Int) = _ from hA.2.2.1 x hx], rfl, ⟨by omega, by omega, by omega, by omega⟩, ?_⟩
      refine ⟨w, sL s 25 c, f, j, fsum f a (fneg f x), by show [mR 1000, mI (j : Int), mI ((sL s 25 c).2.1 7 (27 * (a : Int) + (fneg f x : Nat)))] = _; rw [show (sL s 25 c).2.1 7 (27 * (a : Int) + (fneg f x : Nat)) = _ from hT.2.2.2.2.1 a (fneg f x) ha hnx], rfl, hA, hj, fsum_lt hf ha hnx, ?_⟩
      have skip : jacT f i j a x = none → ∀ p6 p7, K 7 [some (mR 1000), some (mI o), some (mI i), some (mI j), some (mI a), some (mI ((x + 1 : Nat) : Int)), p6, p7] [] (hR w (sL s 25 c)) 0 0 := fun hn p6 p7 => ih c p6 p7 (fun t ht => by
        rw [hc t ht]
        show _ = _ + tv f (jacT f i j a x) t
        rw [hn]
        show _ = _ + 0
        simp)
      cases h1 : chE f i x with
      | none =>
        rw [chI_none h1]
        refine And.intro (fun _ => ?_) (fun q => absurd rfl q)
        refine And.intro (rng_of (by omega) (by omega)) ?_
        exact skip (by unfold jacT; rw [h1]) _ _
      | some e1 =>
        rw [chI_some h1]
        have he1 := ch_lt hf h1
        refine And.intro (fun q => absurd q (by omega)) (fun _ => ?_)
        cases h3 : chE f j (fsum f a (fneg f x)) with
        | none =>
          rw [chI_none h3]
          refine And.intro (fun _ => ?_) (fun q => absurd rfl q)
          refine And.intro (rng_of (by omega) (by omega)) ?_
          exact skip (by unfold jacT; rw [h1]; show (match chE f j (fsum f a (fneg f x)) with | some b => some ((1 : Int64), e1 + b) | none => none) = none; rw [h3]) _ _
        | some e2 =>
          rw [chI_some h3]
          have he2 := ch_lt hf h3
          refine And.intro (fun q => absurd q (by omega)) (fun _ => ?_)
          conv => whnf
          rw [cadd]
          refine And.intro (rng_nat (by omega)) ?_
          refine ⟨w, sL s 25 c, e1 + e2, fN f, 1, rfl, rfl, by omega, hQ.2.1, by omega, by omega, ?_⟩
          refine And.intro (rng_of (by omega) (by omega)) ?_
          refine ih (mm_updL c (((e1 + e2) % fN f : Nat) : Int) (c (((e1 + e2) % fN f : Nat) : Int) + 1)) _ _ (fun t ht => ?_)
          rw [cV_upd' (Nat.mod_lt _ (by omega)), hc t ht]
          show _ = _ + tv f (jacT f i j a x) t
          rw [show jacT f i j a x = some (1, e1 + e2) by unfold jacT; rw [h1]; show (match chE f j (fsum f a (fneg f x)) with | some b => some ((1 : Int64), e1 + b) | none => none) = _; rw [h3]]
          rfl
  refine ⟨rfl, hK [7] _ _ _ _ _ _ ?_⟩
  refine ⟨w, s, rfl, rfl, fun c hc => ?_⟩
  exact loop 0 (by omega) c none none (fun t ht => cV_zero (fun e he => hc e (by omega)))
theorem m_X10_jacobi (l : Launch) : mm_Met l yX10_jacobi cX10_jacobi 8 (some .boolean) 3 0 0 T_X10_jacobi := mm_met (E := e_X10_jacobi) (cd := kX10_jacobi) s_X10_jacobi (by decide) kX10_jacobi_ok (by decide +kernel) (by decide +kernel) (Or.inr (Or.inr (Or.inl ⟨rfl, rfl⟩))) rfl (mm_eok_X10 _) (mm_calls_cons (mm_cbv wi_X10_forget (tb7 (i := 4) rfl rfl) (m_X10_forget l) (by decide) (by decide) rfl) (mm_calls_cons (mm_cbv wi_X10_characterOf (tb7 (i := 97) rfl rfl) (m_X10_characterOf l) (by decide) (by decide) rfl) (mm_calls_cons (mm_cbv wi_X10_sumOf (tb5 (i := 205) rfl rfl) (m_X10_sumOf l) (by decide) (by decide) rfl) (mm_calls_cons (mm_cbv wi_X10_counts (tb7 (i := 26) rfl rfl) (m_X10_counts l) (by decide) (by decide) rfl) (mm_calls_cons (mm_cbv wi_X10_take (tb7 (i := 8) rfl rfl) (m_X10_take l) (by decide) (by decide) rfl) (mm_calls_nil))))))
def T_X10_kloosterman : Tr := fun av h N _ => ∃ (w : FW) (s : RS) (f o a b : Nat), av = [mR 1000, mI o, mI a, mI b] ∧ h = hR w s ∧ RA f s ∧ o ≤ 34 ∧ a < fQ f ∧ b < fQ f ∧ gPost w s f o (kloV f a b) N
abbrev e_X10_kloosterman : NE := (ftX10, [(191, (1, 0, 0, false, (0, 10), T_X10_forget)), (126, (3, 0, 0, false, (0, 10), T_X10_productOf)), (206, (3, 0, 0, false, (0, 10), T_X10_quotientOf)), (139, (3, 0, 0, false, (0, 10), T_X10_sumOf)), (203, (2, 0, 0, false, (0, 10), T_X10_waveOf)), (197, (3, 0, 0, false, (0, 10), T_X10_counts)), (194, (2, 0, 0, false, (0, 10), T_X10_take))], ltX10, [], [], false, 2, (0, 0), [], [], [], false)
theorem s_X10_kloosterman : mm_Spec e_X10_kloosterman kX10_kloosterman 5 T_X10_kloosterman := by
  rintro N X K av h hK ⟨w, s, f, o, a, b, rfl, rfl, hA, ho, ha, hb, h2⟩
  have hT := hA.1
  have hQ := hA.2.1
  have hf := hT.1
  obtain ⟨b1, b2, b3, b4, b5, b6, b7, b8, b9, b10, b11, b12⟩ := fbase hf
  have loop : ∀ x : Nat, x ≤ fQ f → 1 ≤ x → ∀ (c : Int → Int64), (∀ t, t < fD f → cV f (fun e => c (e : Int)) (fN f) t = sumL (fun x => tv f (kloT f a b x) t) x) → K 7 [some (mR 1000), some (mI o), some (mI a), some (mI b), some (mI x)] [] (hR w (sL s 25 c)) 0 0 := by
    refine mm_for (fQ f) (fun hx1 c hc => ?_) (fun x hx ih hx1 c hc => ?_)
    · refine hK [7] _ _ _ _ _ _ ?_
      conv => whnf
      rw [show (sL s 25 c).1 4 = (fQ f : Int) from hT.2.2.2.1]
      refine And.intro (fun _ => ?_) (fun q => absurd q (by omega))
      exact ⟨w, sL s 25 c, f, o, rfl, rfl, hQ, ho, fun r v hv => And.intro (bi_01 _) (gPost_fin h2 (fun t ht => hc t ht) hv)⟩
    · have hp1 := fprd_lt hf ha hx
      obtain ⟨hq1, -, -⟩ := rquo_at hf hb hx hx1
      have hs1 := fsum_lt hf hp1 hq1
      have hwv := wv_lt hf hs1
      refine hK [7] _ _ _ _ _ _ ?_
      conv => whnf
      rw [show (sL s 25 c).1 4 = (fQ f : Int) from hT.2.2.2.1]
      refine And.intro (fun q => absurd q (by omega)) (fun _ => ?_)
      refine ⟨w, sL s 25 c, a, x, rfl, rfl, ⟨by omega, by omega, by omega, by omega⟩, ?_⟩
      refine ⟨w, sL s 25 c, f, b, x, rfl, rfl, hT, hb, hx1, hx, ?_⟩
      refine ⟨w, sL s 25 c, fprd f a x, rquo f b x, by show [mR 1000, mI ((sL s 25 c).2.1 8 (27 * (a : Int) + x)), mI ((rquo f b x : Nat) : Int)] = _; rw [show (sL s 25 c).2.1 8 (27 * (a : Int) + x) = _ from hT.2.2.2.2.2 a x ha hx], rfl, ⟨by omega, by omega, by omega, by omega⟩, ?_⟩
      refine ⟨w, sL s 25 c, f, fsum f (fprd f a x) (rquo f b x), by show [mR 1000, mI ((sL s 25 c).2.1 7 (27 * ((fprd f a x : Nat) : Int) + ((rquo f b x : Nat) : Int)))] = _; rw [show (sL s 25 c).2.1 7 (27 * ((fprd f a x : Nat) : Int) + ((rquo f b x : Nat) : Int)) = _ from hT.2.2.2.2.1 _ _ hp1 hq1], rfl, hA, hs1, ?_⟩
      refine ⟨w, sL s 25 c, wvE f (fsum f (fprd f a x) (rquo f b x)), fN f, 1, rfl, rfl, by omega, hQ.2.1, by omega, by omega, ?_⟩
      refine And.intro (rng_of (by omega) (by omega)) ?_
      refine ih (by omega) (mm_updL c ((wvE f (fsum f (fprd f a x) (rquo f b x)) % fN f : Nat) : Int) (c ((wvE f (fsum f (fprd f a x) (rquo f b x)) % fN f : Nat) : Int) + 1)) (fun t ht => ?_)
      rw [cV_upd' (Nat.mod_lt _ (by omega)), hc t ht]
      show _ = _ + tv f (kloT f a b x) t
      rw [show kloT f a b x = some (1, wvE f (fsum f (fprd f a x) (rquo f b x))) by unfold kloT; rw [if_neg (by omega)]]
      rfl
  refine ⟨rfl, hK [7] _ _ _ _ _ _ ?_⟩
  refine ⟨w, s, rfl, rfl, fun c hc => ?_⟩
  refine loop 1 (by omega) (by omega) c (fun t ht => ?_)
  rw [cV_zero (c := fun e => c (e : Int)) (fun e he => hc e (by omega))]
  show 0 = 0 + 0
  simp
theorem m_X10_kloosterman (l : Launch) : mm_Met l yX10_kloosterman cX10_kloosterman 5 (some .boolean) 3 0 0 T_X10_kloosterman := mm_met (E := e_X10_kloosterman) (cd := kX10_kloosterman) s_X10_kloosterman (by decide) kX10_kloosterman_ok (by decide +kernel) (by decide +kernel) (Or.inr (Or.inr (Or.inl ⟨rfl, rfl⟩))) rfl (mm_eok_X10 _) (mm_calls_cons (mm_cbv wi_X10_forget (tb7 (i := 4) rfl rfl) (m_X10_forget l) (by decide) (by decide) rfl) (mm_calls_cons (mm_cbv wi_X10_productOf (tb5 (i := 213) rfl rfl) (m_X10_productOf l) (by decide) (by decide) rfl) (mm_calls_cons (mm_cbv wi_X10_quotientOf (tb7 (i := 105) rfl rfl) (m_X10_quotientOf l) (by decide) (by decide) rfl) (mm_calls_cons (mm_cbv wi_X10_sumOf (tb5 (i := 205) rfl rfl) (m_X10_sumOf l) (by decide) (by decide) rfl) (mm_calls_cons (mm_cbv wi_X10_waveOf (tb7 (i := 77) rfl rfl) (m_X10_waveOf l) (by decide) (by decide) rfl) (mm_calls_cons (mm_cbv wi_X10_counts (tb7 (i := 26) rfl rfl) (m_X10_counts l) (by decide) (by decide) rfl) (mm_calls_cons (mm_cbv wi_X10_take (tb7 (i := 8) rfl rfl) (m_X10_take l) (by decide) (by decide) rfl) (mm_calls_nil))))))))
def T_X10_isClass : Tr := fun av h N _ => ∃ (w : FW) (s : RS) (e i : Int) (q : Nat), av = [mR 1000, mI e, mI i] ∧ h = hR w s ∧ mm_rng e ∧ mm_rng i ∧ s.1 4 = q ∧ 2 ≤ q ∧ q ≤ 27 ∧ N (some (mI (bi (1 ≤ e ∧ ((q : Int) - 1) % e = 0 ∧ 0 ≤ i ∧ i < e)))) h
abbrev e_X10_isClass : NE := (ftX10, [(162, (3, 0, 0, false, (1, 0), T_X10_isIn))], ltX10, [], [], false, 2, (0, 0), [], [], [], false)
theorem s_X10_isClass : mm_Spec e_X10_isClass kX10_isClass 3 T_X10_isClass := by
  rintro N X K av h hK ⟨w, s, e, i, q, rfl, rfl, he, hi, hq, hq2, hq27, h2⟩
  refine ⟨rfl, hK [] _ _ _ _ _ _ ?_⟩
  refine And.intro (fun z => ?_) (fun z => ?_)
  · rw [bi_f (by omega)] at h2
    exact And.intro (Or.inl rfl) h2
  · conv => whnf
    rw [hq]
    refine And.intro (rng_of (by omega) (by omega)) ?_
    have hdle : ((q : Int) - 1).tdiv e ≤ (q : Int) - 1 := by
      rw [td_eq (by omega)]
      exact Int.ediv_le_self e (by omega)
    have hd0 : 0 ≤ ((q : Int) - 1).tdiv e := Int.tdiv_nonneg (by omega) (by omega)
    refine And.intro ⟨by omega, rng_of (by omega) (by omega)⟩ ?_
    rw [tm_eq (by omega)]
    refine And.intro (fun z2 => ?_) (fun z2 => ?_)
    · rw [bi_f (fun hh => z2 hh.2.1)] at h2
      exact And.intro (Or.inl rfl) h2
    · unfold mm_rng at he hi
      refine And.intro (rng_of (by omega) (by omega)) ?_
      refine ⟨_, _, _, rfl, ?_⟩
      rw [l_0, l_of (rng_of (by omega) (by omega)), l_of (rng_of (by omega) (by omega))]
      refine And.intro (fun z3 => ?_) (fun z3 => ?_)
      · have := bi_eq0.mp z3
        rw [bi_f (fun hh => this ⟨hh.2.2.1, by omega⟩)] at h2
        exact And.intro (Or.inl rfl) h2
      · have := bi_ne0.mp z3
        rw [bi_t ⟨by omega, z2, by omega, by omega⟩] at h2
        exact And.intro (Or.inr rfl) h2
theorem m_X10_isClass (l : Launch) : mm_Met l yX10_isClass cX10_isClass 3 (some .boolean) 1 0 0 T_X10_isClass := mm_met (E := e_X10_isClass) (cd := kX10_isClass) s_X10_isClass (by decide) kX10_isClass_ok (by decide +kernel) (by decide +kernel) (Or.inr (Or.inr (Or.inl ⟨rfl, rfl⟩))) rfl (mm_eok_X10 _) (mm_calls_cons (mm_cbs wi_X10_isIn (tb6 (i := 177) rfl rfl) (m_X10_isIn l) (by decide) (by decide) rfl) (mm_calls_nil))
def T_X10_period : Tr := fun av h N _ => ∃ (w : FW) (s : RS) (f o e i : Nat), av = [mR 1000, mI o, mI e, mI i] ∧ h = hR w s ∧ RA f s ∧ o ≤ 34 ∧ 1 ≤ e ∧ e < 1000 ∧ i < 1000 ∧ gPost w s f o (perV f e i) N
abbrev e_X10_period : NE := (ftX10, [(191, (1, 0, 0, false, (0, 10), T_X10_forget)), (203, (2, 0, 0, false, (0, 10), T_X10_waveOf)), (197, (3, 0, 0, false, (0, 10), T_X10_counts)), (194, (2, 0, 0, false, (0, 10), T_X10_take))], ltX10, [], [], false, 2, (0, 0), [], [], [], false)
theorem s_X10_period : mm_Spec e_X10_period kX10_period 5 T_X10_period := by
  rintro N X K av h hK ⟨w, s, f, o, e, i, rfl, rfl, hA, ho, he1, he, hi, h2⟩
  have hT := hA.1
  have hQ := hA.2.1
  have hf := hT.1
  obtain ⟨b1, b2, b3, b4, b5, b6, b7, b8, b9, b10, b11, b12⟩ := fbase hf
  have loop : ∀ x : Nat, x ≤ fQ f → 1 ≤ x → ∀ (c : Int → Int64), (∀ t, t < fD f → cV f (fun e => c (e : Int)) (fN f) t = sumL (fun x => tv f (perT f e i x) t) x) → K 7 [some (mR 1000), some (mI o), some (mI e), some (mI i), some (mI x)] [] (hR w (sL s 25 c)) 0 0 := by
    refine mm_for (fQ f) (fun hx1 c hc => ?_) (fun x hx ih hx1 c hc => ?_)
    · refine hK [7] _ _ _ _ _ _ ?_
      conv => whnf
      rw [show (sL s 25 c).1 4 = (fQ f : Int) from hT.2.2.2.1]
      refine And.intro (fun _ => ?_) (fun q => absurd q (by omega))
      exact ⟨w, sL s 25 c, f, o, rfl, rfl, hQ, ho, fun r v hv => And.intro (bi_01 _) (gPost_fin h2 (fun t ht => hc t ht) hv)⟩
    · have hwv := wv_lt hf hx
      have hll := flog_lt hf hx
      refine hK [7] _ _ _ _ _ _ ?_
      conv => whnf
      rw [show (sL s 25 c).1 4 = (fQ f : Int) from hT.2.2.2.1]
      refine And.intro (fun q => absurd q (by omega)) (fun _ => ?_)
      refine And.intro (by omega) ?_
      conv => whnf
      rw [show (sL s 25 c).2.1 10 (x : Int) = _ from hA.2.2.2.1 x hx1 hx]
      refine And.intro (dv_ok (by omega) (by omega)) ?_
      rw [tmn]
      refine And.intro (fun q => ?_) (fun q => ?_)
      · refine And.intro (rng_of (by omega) (by omega)) ?_
        refine ih (by omega) c (fun t ht => ?_)
        rw [hc t ht]
        show _ = _ + tv f (perT f e i x) t
        rw [show perT f e i x = none by unfold perT; rw [if_neg (fun z => q (by rw [z.2]))]]
        show _ = _ + 0
        simp
      · have hq : flog f x % e = i := by omega
        refine ⟨w, sL s 25 c, f, x, rfl, rfl, hA, hx, ?_⟩
        refine ⟨w, sL s 25 c, wvE f x, fN f, 1, rfl, rfl, by omega, hQ.2.1, by omega, by omega, ?_⟩
        refine And.intro (rng_of (by omega) (by omega)) ?_
        refine ih (by omega) (mm_updL c ((wvE f x % fN f : Nat) : Int) (c ((wvE f x % fN f : Nat) : Int) + 1)) (fun t ht => ?_)
        rw [cV_upd' (Nat.mod_lt _ (by omega)), hc t ht]
        show _ = _ + tv f (perT f e i x) t
        rw [show perT f e i x = some (1, wvE f x) by unfold perT; rw [if_pos ⟨by omega, hq⟩]]
        rfl
  refine ⟨rfl, hK [7] _ _ _ _ _ _ ?_⟩
  refine ⟨w, s, rfl, rfl, fun c hc => ?_⟩
  refine loop 1 (by omega) (by omega) c (fun t ht => ?_)
  rw [cV_zero (c := fun e => c (e : Int)) (fun e he => hc e (by omega))]
  show 0 = 0 + tv f (perT f e i 0) t
  rw [show perT f e i 0 = none by unfold perT; rw [if_neg (fun z => z.1 rfl)]]
  rfl
theorem m_X10_period (l : Launch) : mm_Met l yX10_period cX10_period 5 (some .boolean) 3 0 0 T_X10_period := mm_met (E := e_X10_period) (cd := kX10_period) s_X10_period (by decide) kX10_period_ok (by decide +kernel) (by decide +kernel) (Or.inr (Or.inr (Or.inl ⟨rfl, rfl⟩))) rfl (mm_eok_X10 _) (mm_calls_cons (mm_cbv wi_X10_forget (tb7 (i := 4) rfl rfl) (m_X10_forget l) (by decide) (by decide) rfl) (mm_calls_cons (mm_cbv wi_X10_waveOf (tb7 (i := 77) rfl rfl) (m_X10_waveOf l) (by decide) (by decide) rfl) (mm_calls_cons (mm_cbv wi_X10_counts (tb7 (i := 26) rfl rfl) (m_X10_counts l) (by decide) (by decide) rfl) (mm_calls_cons (mm_cbv wi_X10_take (tb7 (i := 8) rfl rfl) (m_X10_take l) (by decide) (by decide) rfl) (mm_calls_nil)))))
def T_X10_spectrum : Tr := fun av h N _ => ∃ (w : FW) (s : RS) (f o a : Nat), av = [mR 1000, mI o, mI a] ∧ h = hR w s ∧ RA f s ∧ o ≤ 34 ∧ a < fQ f ∧ gPost w s f o (speV f (fun x => s.2.1 26 (x : Int)) a) N
abbrev e_X10_spectrum : NE := (ftX10, [(191, (1, 0, 0, false, (0, 10), T_X10_forget)), (126, (3, 0, 0, false, (0, 10), T_X10_productOf)), (203, (2, 0, 0, false, (0, 10), T_X10_waveOf)), (197, (3, 0, 0, false, (0, 10), T_X10_counts)), (194, (2, 0, 0, false, (0, 10), T_X10_take))], ltX10, [], [], false, 2, (0, 0), [], [], [], false)
theorem s_X10_spectrum : mm_Spec e_X10_spectrum kX10_spectrum 4 T_X10_spectrum := by
  rintro N X K av h hK ⟨w, s, f, o, a, rfl, rfl, hA, ho, ha, h2⟩
  have hT := hA.1
  have hQ := hA.2.1
  have hf := hT.1
  obtain ⟨b1, b2, b3, b4, b5, b6, b7, b8, b9, b10, b11, b12⟩ := fbase hf
  have loop : ∀ x : Nat, x ≤ fQ f → ∀ (c : Int → Int64), (∀ t, t < fD f → cV f (fun e => c (e : Int)) (fN f) t = sumL (fun x => tv f (speT f (fun x => s.2.1 26 (x : Int)) a x) t) x) → K 6 [some (mR 1000), some (mI o), some (mI a), some (mI x)] [] (hR w (sL s 25 c)) 0 0 := by
    refine mm_for (fQ f) (fun c hc => ?_) (fun x hx ih c hc => ?_)
    · refine hK [6] _ _ _ _ _ _ ?_
      conv => whnf
      rw [show (sL s 25 c).1 4 = (fQ f : Int) from hT.2.2.2.1]
      refine And.intro (fun _ => ?_) (fun q => absurd q (by omega))
      exact ⟨w, sL s 25 c, f, o, rfl, rfl, hQ, ho, fun r v hv => And.intro (bi_01 _) (gPost_fin h2 (fun t ht => hc t ht) hv)⟩
    · have hp1 := fprd_lt hf ha hx
      have hwv := wv_lt hf hp1
      refine hK [6] _ _ _ _ _ _ ?_
      conv => whnf
      rw [show (sL s 25 c).1 4 = (fQ f : Int) from hT.2.2.2.1]
      refine And.intro (fun q => absurd q (by omega)) (fun _ => ?_)
      refine ⟨w, sL s 25 c, a, x, rfl, rfl, ⟨by omega, by omega, by omega, by omega⟩, ?_⟩
      refine ⟨w, sL s 25 c, f, fprd f a x, by show [mR 1000, mI ((sL s 25 c).2.1 8 (27 * (a : Int) + x))] = _; rw [show (sL s 25 c).2.1 8 (27 * (a : Int) + x) = _ from hT.2.2.2.2.2 a x ha hx], rfl, hA, hp1, ?_⟩
      refine And.intro (by omega) ?_
      refine ⟨w, sL s 25 c, wvE f (fprd f a x), fN f, Int64.ofInt (s.2.1 26 (x : Int)), rfl, rfl, by omega, hQ.2.1, by omega, by omega, ?_⟩
      refine And.intro (rng_of (by omega) (by omega)) ?_
      refine ih (mm_updL c ((wvE f (fprd f a x) % fN f : Nat) : Int) (c ((wvE f (fprd f a x) % fN f : Nat) : Int) + Int64.ofInt (s.2.1 26 (x : Int)))) (fun t ht => ?_)
      rw [cV_upd' (Nat.mod_lt _ (by omega)), hc t ht]
      rfl
  refine ⟨rfl, hK [6] _ _ _ _ _ _ ?_⟩
  refine ⟨w, s, rfl, rfl, fun c hc => ?_⟩
  exact loop 0 (by omega) c (fun t ht => cV_zero (fun e he => hc e (by omega)))
theorem m_X10_spectrum (l : Launch) : mm_Met l yX10_spectrum cX10_spectrum 4 (some .boolean) 3 0 0 T_X10_spectrum := mm_met (E := e_X10_spectrum) (cd := kX10_spectrum) s_X10_spectrum (by decide) kX10_spectrum_ok (by decide +kernel) (by decide +kernel) (Or.inr (Or.inr (Or.inl ⟨rfl, rfl⟩))) rfl (mm_eok_X10 _) (mm_calls_cons (mm_cbv wi_X10_forget (tb7 (i := 4) rfl rfl) (m_X10_forget l) (by decide) (by decide) rfl) (mm_calls_cons (mm_cbv wi_X10_productOf (tb5 (i := 213) rfl rfl) (m_X10_productOf l) (by decide) (by decide) rfl) (mm_calls_cons (mm_cbv wi_X10_waveOf (tb7 (i := 77) rfl rfl) (m_X10_waveOf l) (by decide) (by decide) rfl) (mm_calls_cons (mm_cbv wi_X10_counts (tb7 (i := 26) rfl rfl) (m_X10_counts l) (by decide) (by decide) rfl) (mm_calls_cons (mm_cbv wi_X10_take (tb7 (i := 8) rfl rfl) (m_X10_take l) (by decide) (by decide) rfl) (mm_calls_nil))))))
def T_X10_mellin : Tr := fun av h N _ => ∃ (w : FW) (s : RS) (f o j : Nat), av = [mR 1000, mI o, mI j] ∧ h = hR w s ∧ RA f s ∧ o ≤ 34 ∧ j < 27 ∧ gPost w s f o (melV f (fun x => s.2.1 26 (x : Int)) j) N
abbrev e_X10_mellin : NE := (ftX10, [(191, (1, 0, 0, false, (0, 10), T_X10_forget)), (200, (3, 0, 0, false, (0, 10), T_X10_characterOf)), (197, (3, 0, 0, false, (0, 10), T_X10_counts)), (194, (2, 0, 0, false, (0, 10), T_X10_take))], ltX10, [], [], false, 2, (0, 0), [], [], [], false)
theorem s_X10_mellin : mm_Spec e_X10_mellin kX10_mellin 5 T_X10_mellin := by
  rintro N X K av h hK ⟨w, s, f, o, j, rfl, rfl, hA, ho, hj, h2⟩
  have hT := hA.1
  have hQ := hA.2.1
  have hf := hT.1
  obtain ⟨b1, b2, b3, b4, b5, b6, b7, b8, b9, b10, b11, b12⟩ := fbase hf
  have loop : ∀ x : Nat, x ≤ fQ f → ∀ (c : Int → Int64) (o4 : Option MV), (∀ t, t < fD f → cV f (fun e => c (e : Int)) (fN f) t = sumL (fun x => tv f (melT f (fun x => s.2.1 26 (x : Int)) j x) t) x) → K 6 [some (mR 1000), some (mI o), some (mI j), some (mI x), o4] [] (hR w (sL s 25 c)) 0 0 := by
    refine mm_for (fQ f) (fun c o4 hc => ?_) (fun x hx ih c o4 hc => ?_)
    · refine hK [6] _ _ _ _ _ _ ?_
      conv => whnf
      rw [show (sL s 25 c).1 4 = (fQ f : Int) from hT.2.2.2.1]
      refine And.intro (fun _ => ?_) (fun q => absurd q (by omega))
      exact ⟨w, sL s 25 c, f, o, rfl, rfl, hQ, ho, fun r v hv => And.intro (bi_01 _) (gPost_fin h2 (fun t ht => hc t ht) hv)⟩
    · refine hK [6] _ _ _ _ _ _ ?_
      conv => whnf
      rw [show (sL s 25 c).1 4 = (fQ f : Int) from hT.2.2.2.1]
      refine And.intro (fun q => absurd q (by omega)) (fun _ => ?_)
      refine ⟨w, sL s 25 c, f, j, x, rfl, rfl, hA, hj, hx, ?_⟩
      cases hch : chE f j x with
      | none =>
        rw [chI_none hch]
        refine And.intro (fun _ => ?_) (fun q => absurd rfl q)
        refine And.intro (rng_of (by omega) (by omega)) ?_
        refine ih c _ (fun t ht => ?_)
        rw [hc t ht]
        show _ = _ + tv f (melT f (fun x => s.2.1 26 (x : Int)) j x) t
        rw [show melT f (fun x => s.2.1 26 (x : Int)) j x = none by unfold melT; rw [hch]]
        show _ = _ + 0
        simp
      | some e =>
        rw [chI_some hch]
        have he := ch_lt hf hch
        refine And.intro (fun q => absurd q (by omega)) (fun _ => ?_)
        refine And.intro (by omega) ?_
        refine ⟨w, sL s 25 c, e, fN f, Int64.ofInt (s.2.1 26 (x : Int)), rfl, rfl, by omega, hQ.2.1, by omega, by omega, ?_⟩
        refine And.intro (rng_of (by omega) (by omega)) ?_
        refine ih (mm_updL c ((e % fN f : Nat) : Int) (c ((e % fN f : Nat) : Int) + Int64.ofInt (s.2.1 26 (x : Int)))) _ (fun t ht => ?_)
        rw [cV_upd' (Nat.mod_lt _ (by omega)), hc t ht]
        show _ = _ + tv f (melT f (fun x => s.2.1 26 (x : Int)) j x) t
        rw [show melT f (fun x => s.2.1 26 (x : Int)) j x = some (Int64.ofInt (s.2.1 26 (x : Int)), e) by unfold melT; rw [hch]]
        rfl
  refine ⟨rfl, hK [6] _ _ _ _ _ _ ?_⟩
  refine ⟨w, s, rfl, rfl, fun c hc => ?_⟩
  exact loop 0 (by omega) c none (fun t ht => cV_zero (fun e he => hc e (by omega)))
theorem m_X10_mellin (l : Launch) : mm_Met l yX10_mellin cX10_mellin 5 (some .boolean) 3 0 0 T_X10_mellin := mm_met (E := e_X10_mellin) (cd := kX10_mellin) s_X10_mellin (by decide) kX10_mellin_ok (by decide +kernel) (by decide +kernel) (Or.inr (Or.inr (Or.inl ⟨rfl, rfl⟩))) rfl (mm_eok_X10 _) (mm_calls_cons (mm_cbv wi_X10_forget (tb7 (i := 4) rfl rfl) (m_X10_forget l) (by decide) (by decide) rfl) (mm_calls_cons (mm_cbv wi_X10_characterOf (tb7 (i := 97) rfl rfl) (m_X10_characterOf l) (by decide) (by decide) rfl) (mm_calls_cons (mm_cbv wi_X10_counts (tb7 (i := 26) rfl rfl) (m_X10_counts l) (by decide) (by decide) rfl) (mm_calls_cons (mm_cbv wi_X10_take (tb7 (i := 8) rfl rfl) (m_X10_take l) (by decide) (by decide) rfl) (mm_calls_nil)))))
def T_X10_isMoving : Tr := fun av h N _ => ∃ (w : FW) (s : RS) (a : Int) (n : Nat), av = [mR 1000, mI a] ∧ h = hR w s ∧ mm_rng a ∧ s.1 14 = n ∧ 1 ≤ n ∧ n ≤ 506 ∧ N (some (mI (bi (0 ≤ a ∧ a < n ∧ Nat.gcd a.toNat n = 1)))) h
abbrev e_X10_isMoving : NE := (ftX10, [(162, (3, 0, 0, false, (1, 0), T_X10_isIn)), (181, (2, 0, 0, false, (1, 0), T_X10_common))], ltX10, [], [], false, 2, (0, 0), [], [], [], false)
theorem s_X10_isMoving : mm_Spec e_X10_isMoving kX10_isMoving 2 T_X10_isMoving := by
  rintro N X K av h hK ⟨w, s, a, n, rfl, rfl, ha, hn, hn1, hn5, h2⟩
  refine ⟨rfl, hK [] _ _ _ _ _ _ ?_⟩
  conv => whnf
  rw [hn]
  refine And.intro (rng_of (by omega) (by omega)) ?_
  refine ⟨_, _, _, rfl, ?_⟩
  rw [l_0, l_of ha, l_of (rng_of (by omega) (by omega))]
  refine And.intro (fun q => ?_) (fun q => ?_)
  · have := bi_eq0.mp q
    rw [bi_f (fun hh => this ⟨hh.1, by omega⟩)] at h2
    exact And.intro (Or.inl rfl) h2
  · have hin := bi_ne0.mp q
    refine ⟨a.toNat, n, by show [mI a, mI (s.1 14)] = _; rw [hn, show ((a.toNat : Nat) : Int) = a by omega], by omega, by omega, ?_⟩
    refine And.intro (fun q2 => ?_) (fun q2 => ?_)
    · rw [bi_f (fun hh => q2 (by rw [hh.2.2]; rfl))] at h2
      exact And.intro (Or.inl rfl) h2
    · rw [bi_t ⟨hin.1, by omega, by omega⟩] at h2
      exact And.intro (Or.inr rfl) h2
theorem m_X10_isMoving (l : Launch) : mm_Met l yX10_isMoving cX10_isMoving 2 (some .boolean) 1 0 0 T_X10_isMoving := mm_met (E := e_X10_isMoving) (cd := kX10_isMoving) s_X10_isMoving (by decide) kX10_isMoving_ok (by decide +kernel) (by decide +kernel) (Or.inr (Or.inr (Or.inl ⟨rfl, rfl⟩))) rfl (mm_eok_X10 _) (mm_calls_cons (mm_cbs wi_X10_isIn (tb6 (i := 177) rfl rfl) (m_X10_isIn l) (by decide) (by decide) rfl) (mm_calls_cons (mm_cbs wi_X10_common (tb7 (i := 42) rfl rfl) (m_X10_common l) (by decide) (by decide) rfl) (mm_calls_nil)))
def T_X10_movings : Tr := fun av h N _ => ∃ (w : FW) (s : RS) (f o a : Nat), av = [mR 1000, mI o, mI a] ∧ h = hR w s ∧ RQ f s ∧ o ≤ 34 ∧ a ≤ 506 ∧ gPost w s f o (movV f a) N
abbrev e_X10_movings : NE := (ftX10, [(191, (1, 0, 0, false, (0, 10), T_X10_forget)), (209, (2, 0, 0, false, (0, 10), T_X10_isMoving)), (197, (3, 0, 0, false, (0, 10), T_X10_counts)), (194, (2, 0, 0, false, (0, 10), T_X10_take))], ltX10, [], [], false, 2, (0, 0), [], [], [], false)
theorem s_X10_movings : mm_Spec e_X10_movings kX10_movings 4 T_X10_movings := by
  rintro N X K av h hK ⟨w, s, f, o, a, rfl, rfl, hQ, ho, ha, h2⟩
  have hf := hQ.1
  obtain ⟨b1, b2, b3, b4, b5, b6, b7, b8, b9, b10, b11, b12⟩ := fbase hf
  have loop : ∀ x : Nat, x ≤ fN f → ∀ (c : Int → Int64), (∀ t, t < fD f → cV f (fun e => c (e : Int)) (fN f) t = sumL (fun m => tv f (movT f a m) t) x) → K 6 [some (mR 1000), some (mI o), some (mI a), some (mI x)] [] (hR w (sL s 25 c)) 0 0 := by
    refine mm_for (fN f) (fun c hc => ?_) (fun x hx ih c hc => ?_)
    · refine hK [6] _ _ _ _ _ _ ?_
      conv => whnf
      rw [show (sL s 25 c).1 14 = (fN f : Int) from hQ.2.1]
      refine And.intro (fun _ => ?_) (fun q => absurd q (by omega))
      exact ⟨w, sL s 25 c, f, o, rfl, rfl, hQ, ho, fun r v hv => And.intro (bi_01 _) (gPost_fin h2 (fun t ht => hc t ht) hv)⟩
    · refine hK [6] _ _ _ _ _ _ ?_
      conv => whnf
      rw [show (sL s 25 c).1 14 = (fN f : Int) from hQ.2.1]
      refine And.intro (fun q => absurd q (by omega)) (fun _ => ?_)
      refine ⟨w, sL s 25 c, x, fN f, rfl, rfl, rng_nat (by omega), hQ.2.1, by omega, by omega, ?_⟩
      rw [Int.toNat_natCast]
      refine And.intro (fun q => ?_) (fun q => ?_)
      · have hn := bi_eq0.mp q
        refine And.intro (rng_of (by omega) (by omega)) ?_
        refine ih c (fun t ht => ?_)
        rw [hc t ht]
        show _ = _ + tv f (movT f a x) t
        rw [show movT f a x = none by unfold movT; rw [if_neg (fun z => hn ⟨by omega, by omega, z⟩)]]
        show _ = _ + 0
        simp
      · have hn := bi_ne0.mp q
        have hm : x * a ≤ 506 * 506 := Nat.mul_le_mul (by omega) ha
        refine ⟨w, sL s 25 c, x * a, fN f, 1, by show [mR 1000, mL (Int64.ofInt (x : Int) * Int64.ofInt (a : Int)), mL (Int64.ofNat ((1 : Fin 2) : Nat))] = _; rw [← Int64.ofInt_mul]; rfl, rfl, by omega, hQ.2.1, by omega, by omega, ?_⟩
        refine And.intro (rng_of (by omega) (by omega)) ?_
        refine ih (mm_updL c ((x * a % fN f : Nat) : Int) (c ((x * a % fN f : Nat) : Int) + 1)) (fun t ht => ?_)
        rw [cV_upd' (Nat.mod_lt _ (by omega)), hc t ht]
        show _ = _ + tv f (movT f a x) t
        rw [show movT f a x = some (1, x * a) by unfold movT; rw [if_pos hn.2.2]]
        rfl
  refine ⟨rfl, hK [6] _ _ _ _ _ _ ?_⟩
  refine ⟨w, s, rfl, rfl, fun c hc => ?_⟩
  exact loop 0 (by omega) c (fun t ht => cV_zero (fun e he => hc e (by omega)))
theorem m_X10_movings (l : Launch) : mm_Met l yX10_movings cX10_movings 4 (some .boolean) 3 0 0 T_X10_movings := mm_met (E := e_X10_movings) (cd := kX10_movings) s_X10_movings (by decide) kX10_movings_ok (by decide +kernel) (by decide +kernel) (Or.inr (Or.inr (Or.inl ⟨rfl, rfl⟩))) rfl (mm_eok_X10 _) (mm_calls_cons (mm_cbv wi_X10_forget (tb7 (i := 4) rfl rfl) (m_X10_forget l) (by decide) (by decide) rfl) (mm_calls_cons (mm_cbv wi_X10_isMoving (tb7 (i := 38) rfl rfl) (m_X10_isMoving l) (by decide) (by decide) rfl) (mm_calls_cons (mm_cbv wi_X10_counts (tb7 (i := 26) rfl rfl) (m_X10_counts l) (by decide) (by decide) rfl) (mm_calls_cons (mm_cbv wi_X10_take (tb7 (i := 8) rfl rfl) (m_X10_take l) (by decide) (by decide) rfl) (mm_calls_nil)))))
