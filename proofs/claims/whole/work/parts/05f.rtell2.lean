/-! the reference: tell -/
theorem RR_setF {a : AS} {s : RS} {v : Int} (h : RR a s) (hv : -1 ≤ v ∧ v ≤ 200) : RR (aSetF a v) (sI s 36 v) := by
  obtain ⟨⟨a0, a1, a2, a3, a4, a5, a6⟩, h1, h2, h3, h4, h5, h6, h7, h8, h9⟩ := h
  exact ⟨⟨a0, a1, a2, a3, a4, hv, a6⟩, RA_fr (s := s) h1 (FR_I (I := [36]) (A := []) (L := []) (FR_rf s) rfl) rfl rfl rfl, h2, h3, h4, h5, h6, h7, rfl, h9⟩
theorem RR_setT0 {a : AS} {s : RS} (h : RR a s) : RR (aSetT a 0 (aTt a)) (sI s 28 0) := by
  obtain ⟨⟨a0, a1, a2, a3, a4, a5, a6⟩, h1, h2, h3, h4, h5, h6, h7, h8, h9⟩ := h
  exact ⟨⟨a0, a1, a2, Nat.zero_le _, fun i hi => absurd hi (Nat.not_lt_zero i), a5, a6⟩, RA_fr (s := s) h1 (FR_I (I := [28]) (A := []) (L := []) (FR_rf s) rfl) rfl rfl rfl, h2, h3, h4, h5, rfl, fun i hi => absurd hi (Nat.not_lt_zero i), h8, h9⟩
theorem RR_c {a : AS} {s : RS} {v : Int} (h : RR a s) : RR a (sI s 1 v) := RR_fr h (FR_I (I := [1]) (A := []) (L := []) (FR_rf s) rfl) rfl rfl rfl (fun _ _ _ _ => rfl)
def T_X10_tell : Tr := fun av h N _ => ∃ (w : FW) (s : RS) (a : AS) (p n : Int), av = [mR 1000, mI p, mI n] ∧ h = hR w s ∧ RR a s ∧ mm_rng p ∧ RP w (xTell a p n).1 (xTell a p n).2 N
abbrev e_X10_tell  : NE := (ftX10, [(370, (1, 0, 0, false, (1, 0), T_X10_isPlace)), (373, (2, 0, 0, false, (0, 10), T_X10_fail)), (376, (3, 0, 0, false, (0, 10), T_X10_readAll)), (279, (3, 0, 0, false, (0, 10), T_X10_copy)), (380, (2, 0, 0, false, (0, 10), T_X10_filled))], ltX10, [], [], false, 1, (0, 0), [], [], [], false)
set_option maxHeartbeats 8000000 in
theorem s_X10_tell : mm_Spec e_X10_tell kX10_tell 5 T_X10_tell := by
  rintro N X K av h hK ⟨w, s, a, p, n, rfl, rfl, hr, hp, h2⟩
  have hb := fbase hr.1.1
  have h28 : s.1 28 = (aTn a : Nat) := hr.2.2.2.2.2.2.1
  have hno : ¬ (okP p ∧ 0 ≤ n ∧ n ≤ (aTn a : Int)) → K 24 [some (mR 1000), some (mI p), some (mI n), none, none] [] (hR w (sI s 1 0)) 0 0 := by
    intro hh
    have e : xTell a p n = (a, 1, 0) := by unfold xTell; rw [if_neg hh]
    rw [e] at h2
    refine hK [] _ _ _ _ _ _ ?_
    refine ⟨w, sI s 1 0, 1, rfl, rfl, ?_⟩
    exact h2 (sI (sI s 1 0) 1 1) (RR_c (RR_c hr)) rfl
  have hyes : okP p ∧ 0 ≤ n ∧ n ≤ (aTn a : Int) → K 30 [some (mR 1000), some (mI p), some (mI n), none, none] [] (hR w (sI s 1 0)) 0 0 := by
    intro hh
    obtain ⟨m, rfl⟩ := Int.eq_ofNat_of_zero_le hh.2.1
    obtain ⟨pn, rfl⟩ := Int.eq_ofNat_of_zero_le hh.1.1
    have hm : m ≤ aTn a := by omega
    have hm2 : m ≤ 200 := Nat.le_trans hm hr.1.2.2.2.1
    have hpn : pn < 8 := by omega
    have e : xTell a pn m = (match pAll (aTt a, m) (aF a) with
      | .inl (k, b) => (aSetF (aSetT a 0 (aTt a)) (b : Int), 0, -10 - (k : Int))
      | .inr (_, ops) => match evs a ops (some []) with
        | some (V :: _) => (aSetP (aSetF (aSetT a 0 (aTt a)) (-1)) pn (fun t => (V t).toInt), 0, (nzc V (fD (aF a)) : Int))
        | _ => (aSetF (aSetT a 0 (aTt a)) (-1), 0, -2)) := by
      unfold xTell
      rw [if_pos hh]
      rfl
    rw [e] at h2
    obtain ⟨s1, hs1⟩ : ∃ s1, s1 = sI (sI (sI s 1 0) 28 0) 36 (-1) := ⟨_, rfl⟩
    have hr1 : RR (aSetF (aSetT a 0 (aTt a)) (-1)) s1 := by rw [hs1]; exact RR_setF (RR_setT0 (RR_c hr)) (by omega)
    have c1 : s1.1 1 = 0 := by rw [hs1]; rfl
    have t1 : ∀ i : Nat, i < m → s1.2.1 27 (i : Int) = aTt a i ∧ 0 ≤ aTt a i ∧ aTt a i ≤ 255 := fun i hi => ⟨by rw [hs1]; exact hr.2.2.2.2.2.2.2.1 i (by omega), hr.1.2.2.2.2.1 i (by omega)⟩
    refine hK [] _ _ _ _ _ _ ?_
    refine ⟨w, s1, a, m, 0, rfl, by rw [hs1]; rfl, hr1.2.1, hm2, t1, hr1.2.2.2.2.1, Or.inl rfl, fun s2 r hF2 h39 hPA => ?_⟩
    have hr2 := RR_a hr1 hF2
    have c2 : s2.1 1 = 0 := (hF2.1.1 1 rfl).trans c1
    cases hpa : pAll (aTt a, m) (aF a) with
    | inl q =>
      rw [hpa] at hPA h2
      obtain ⟨b1, b2, b3, b4, b5⟩ := hPA
      refine And.intro (fun q => absurd q (by omega)) (fun _ => ?_)
      conv => whnf
      rw [show s2.1 34 = (q.1 : Int) from b1]
      refine And.intro (rng_of (by omega) (by omega)) ?_
      refine h2 (sI s2 36 (s2.1 35)) ?_ c2
      rw [b4]
      exact RR_setF (a := aSetF (aSetT a 0 (aTt a)) (-1)) hr2 (by omega)
    | inr v =>
      rw [hpa] at hPA h2
      have g0 := hPA.1
      refine And.intro (fun _ => ?_) (fun q => absurd q (by omega))
      refine ⟨w, s2, a, m, 1, rfl, rfl, hr2.2.1, hm2, fun i hi => ⟨by rw [hF2.1.2.1 27 rfl]; exact (t1 i hi).1, (t1 i hi).2⟩, hr2.2.2.2.2.1, Or.inr rfl, fun s3 r3 hF3 h393 hPA3 => ?_⟩
      have hr3 := RR_a hr2 hF3
      have c3 : s3.1 1 = 0 := (hF3.1.1 1 rfl).trans c2
      rw [hpa] at hPA3
      obtain ⟨g30, g3, g3r⟩ := hPA3
      subst g3r
      rw [if_pos rfl] at g3
      have hok := all_ok hr.1.1 hpa
      have h2 : RP w (match evs a v.2 (some []) with
        | some (V :: _) => (aSetP (aSetF (aSetT a 0 (aTt a)) (-1)) pn (fun t => (V t).toInt), 0, (nzc V (fD (aF a)) : Int))
        | _ => (aSetF (aSetT a 0 (aTt a)) (-1), 0, -2) : AS × Nat × Int).1 (match evs a v.2 (some []) with
        | some (V :: _) => (aSetP (aSetF (aSetT a 0 (aTt a)) (-1)) pn (fun t => (V t).toInt), 0, (nzc V (fD (aF a)) : Int))
        | _ => (aSetF (aSetT a 0 (aTt a)) (-1), 0, -2) : AS × Nat × Int).2 N := h2
      cases hev : evs a v.2 (some []) with
      | none =>
        rw [hev] at g3 h2
        have q40 : s3.1 40 = 1 := by
          rcases g3.2.2 with q | q
          · omega
          · exact q
        refine And.intro (fun q => absurd q (by omega)) (fun _ => ?_)
        exact h2 s3 hr3 c3
      | some L =>
        rw [hev] at g3 h2
        obtain ⟨V, L1, rfl⟩ := len1 g3
        have hS := evs_S hr.1 v.2 [] (V :: L1) hok.1 (fun _ h => nomatch h) hev
        have hV := (RE_pop g3).2
        have q40 : s3.1 40 = 0 := g3.2.2.2.1
        have hl1 : L1.length = 0 := by
          have := g3.2.2.2.2.1
          simpa using this
        have hz := g3.2.2.2.2.2.2.1
        rw [hl1] at hz
        refine And.intro (fun _ => ?_) (fun q => absurd q (by omega))
        refine ⟨w, s3, pn, 8, rfl, rfl, by omega, by omega, fun v2 hv2 => ?_⟩
        have hv3 : ∀ i t : Nat, i < 8 → t < 256 → v2 (256 * (i : Int) + t) = if i = pn then (if t < fD (aF a) then Int64.ofInt ((V t).toInt) else 0) else s3.2.2 24 (256 * (i : Int) + t) := by
          intro i t hi ht
          rw [hv2]
          by_cases q : i = pn
          · rw [if_pos (by omega), if_pos q, show 256 * ((8 : Nat) : Int) + (256 * (i : Int) + (t : Int) - 256 * (pn : Int)) = 256 * ((8 + 0 : Nat) : Int) + (t : Int) by omega]
            by_cases q2 : t < fD (aF a)
            · rw [if_pos q2, hV t q2, Int64.ofInt_toInt]
            · rw [if_neg q2]
              exact hz t (by omega) ht
          · rw [if_neg (by omega), if_neg q]
        have hr4 := RR_setP (a := aSetF (aSetT a 0 (aTt a)) (-1)) hr3 (p := pn) hpn (V := fun t => (V t).toInt) (hS V List.mem_cons_self) hv3
        refine ⟨w, sL s3 24 v2, aF a, pn, rfl, rfl, hr4.2.1.2.1, by omega, ?_⟩
        have h3 := h2 _ hr4 c3
        rw [nzc_congr (V := fun t => (sL s3 24 v2).2.2 24 (256 * (pn : Int) + t)) (V' := V) (fD (aF a)) (fun t ht => by
          show v2 _ = _
          rw [hv3 pn t hpn (by omega), if_pos rfl, if_pos ht, Int64.ofInt_toInt])]
        exact h3
  refine ⟨rfl, hK [24, 30] _ _ _ _ _ _ ?_⟩
  refine ⟨p, rfl, hp, ?_⟩
  refine And.intro (fun q => ?_) (fun q => ?_)
  · exact hno (fun z => bi_c0 q z.1)
  have q := bi_c1 q
  refine And.intro (fun q2 => ?_) (fun q2 => ?_)
  · exact hno (fun z => by omega)
  conv => whnf
  rw [h28]
  refine And.intro (fun q3 => ?_) (fun q3 => ?_)
  · exact hyes ⟨q, q2, q3⟩
  · exact hno (fun z => by omega)
theorem m_X10_tell  (l : Launch) : mm_Met l yX10_tell cX10_tell 5 (some .int) (42) 0 0 (T_X10_tell) := mm_met (E := e_X10_tell ) (cd := kX10_tell) (s_X10_tell ) (by decide) kX10_tell_ok (by decide +kernel) (by rfl) (Or.inr (Or.inl ⟨rfl, rfl⟩)) rfl (mm_eok_X10 _) (mm_calls_cons (mm_cbs wi_X10_isPlace (tb6 (i := 173) rfl rfl) (m_X10_isPlace l) (by omega) (by omega) rfl) (mm_calls_cons (mm_cbv wi_X10_fail (tb6 (i := 180) rfl rfl) (m_X10_fail l) (by omega) (by omega) rfl) (mm_calls_cons (mm_cbv wi_X10_readAll (tb6 (i := 184) rfl rfl) (m_X10_readAll l) (by omega) (by omega) rfl) (mm_calls_cons (mm_cbv wi_X10_copy (tb7 (i := 30) rfl rfl) (m_X10_copy l) (by omega) (by omega) rfl) (mm_calls_cons (mm_cbv wi_X10_filled (tb7 (i := 121) rfl rfl) (m_X10_filled l) (by omega) (by omega) rfl) (mm_calls_nil))))))
