/-! the reference: tokens -/
def rtk (t : Int) : Int := if t = -2 then -3 else t
/-- the text lies there -/
def TPR (x : TP) (s : RS) : Prop := s.1 29 = (x.2 : Nat) ∧ x.2 ≤ 200 ∧ ∀ i : Nat, i < x.2 → s.2.1 27 (i : Int) = x.1 i ∧ 0 ≤ x.1 i ∧ x.1 i ≤ 255
theorem TPR_fr {x : TP} {I A L : List Nat} {s s' : RS} (h : TPR x s) (hF : FR I A L s s') (h1 : mm_mem 29 I = false) (h2 : mm_mem 27 A = false) : TPR x s' := ⟨(hF.1 29 h1).trans h.1, h.2.1, by rw [hF.2.1 27 h2]; exact h.2.2⟩
/-- the token at p is the one read last -/
def TK (x : TP) (s : RS) (p : Nat) : Prop := s.1 30 = (tNx x p : Nat) ∧ s.1 31 = (tSt x p : Nat) ∧ s.1 32 = rtk (tTk x p) ∧ (tTk x p = -2 → s.1 33 = (tNm x p : Nat)) ∧ p ≤ x.2
theorem TK_fr {x : TP} {p : Nat} {I A L : List Nat} {s s' : RS} (h : TK x s p) (hF : FR I A L s s') (h1 : mm_mem 30 I = false) (h2 : mm_mem 31 I = false) (h3 : mm_mem 32 I = false) (h4 : mm_mem 33 I = false) : TK x s' p := ⟨(hF.1 30 h1).trans h.1, (hF.1 31 h2).trans h.2.1, (hF.1 32 h3).trans h.2.2.1, fun q => (hF.1 33 h4).trans (h.2.2.2.1 q), h.2.2.2.2⟩
def byX (x : TP) (i : Nat) : Int := if i < x.2 then x.1 i else -1
def T_X10_byteAt : Tr := fun av h N _ => ∃ (w : FW) (s : RS) (x : TP) (i : Nat), av = [mR 1000, mI i] ∧ h = hR w s ∧ TPR x s ∧ N (some (mI (byX x i))) h
abbrev e_X10_byteAt : NE := (ftX10, [], ltX10, [], [], false, 1, (0, 0), [], [], [], false)
theorem s_X10_byteAt : mm_Spec e_X10_byteAt kX10_byteAt 2 T_X10_byteAt := by
  rintro N X K av h hK ⟨w, s, x, i, rfl, rfl, ⟨h29, hlen, hb⟩, h2⟩
  unfold byX at h2
  refine ⟨rfl, hK [] _ _ _ _ _ _ ?_⟩
  refine And.intro (fun q => ?_) (fun q => ?_)
  · rw [if_neg (by omega)] at h2
    exact h2
  · have hi : i < x.2 := by omega
    rw [if_pos hi] at h2
    rw [← (hb i hi).1] at h2
    refine And.intro (by omega) ?_
    exact h2
theorem m_X10_byteAt (l : Launch) : mm_Met l yX10_byteAt cX10_byteAt 2 (some .int) 0 0 0 T_X10_byteAt := mm_met (E := e_X10_byteAt) (cd := kX10_byteAt) s_X10_byteAt (by decide) kX10_byteAt_ok (by decide +kernel) (by decide +kernel) (Or.inr (Or.inl ⟨rfl, rfl⟩)) rfl (mm_eok_X10 _) (mm_calls_nil)
def T_X10_isFigure : Tr := fun av h N _ => ∃ c : Int, av = [mI c] ∧ N (some (mI (ind (isFg c) : Nat))) h
abbrev e_X10_isFigure : NE := (ftX10, [], ltX10, [], [], false, 2, (0, 0), [], [], [], false)
theorem s_X10_isFigure : mm_Spec e_X10_isFigure kX10_isFigure 1 T_X10_isFigure := by
  rintro N X K av h hK ⟨c, rfl, h2⟩
  refine ⟨rfl, hK [] _ _ _ _ _ _ ?_⟩
  refine And.intro (fun q => ?_) (fun q => ?_)
  · rw [ind_f (show isFg c = false from decide_eq_false (by omega))] at h2
    exact And.intro (Or.inl rfl) h2
  · refine And.intro (fun q2 => ?_) (fun q2 => ?_)
    · rw [ind_f (show isFg c = false from decide_eq_false (by omega))] at h2
      exact And.intro (Or.inl rfl) h2
    · rw [ind_t (show isFg c = true from decide_eq_true (by omega))] at h2
      exact And.intro (Or.inr rfl) h2
theorem m_X10_isFigure (l : Launch) : mm_Met l yX10_isFigure cX10_isFigure 1 (some .boolean) 0 0 0 T_X10_isFigure := mm_met (E := e_X10_isFigure) (cd := kX10_isFigure) s_X10_isFigure (by decide) kX10_isFigure_ok (by decide +kernel) (by decide +kernel) (Or.inr (Or.inr (Or.inl ⟨rfl, rfl⟩))) rfl (mm_eok_X10 _) (mm_calls_nil)
def T_X10_step : Tr := fun av h N _ => ∃ (w : FW) (s : RS) (x : TP) (p : Nat), av = [mR 1000] ∧ h = hR w s ∧ TPR x s ∧ s.1 30 = (p : Nat) ∧ p ≤ x.2 ∧ ∀ s' : RS, FR [30, 31, 32, 33] [] [] s s' → TK x s' p → N none (hR w s')
abbrev e_X10_step : NE := (ftX10, [(221, (2, 0, 0, false, (0, 10), T_X10_byteAt)), (230, (1, 0, 0, false, (1, 0), T_X10_isFigure)), (236, (2, 0, 0, false, (1, 0), T_J9_min_7cf53))], ltX10, [], [], false, 0, (0, 0), [], [], [], false)
set_option maxHeartbeats 4000000 in
theorem s_X10_step : mm_Spec e_X10_step kX10_step 1 T_X10_step := by
  rintro N X K av h hK ⟨w, s, x, p, rfl, rfl, hT, h30, hp, h2⟩
  have hlen := hT.2.1
  -- figures
  have loopN : ∀ (n i a : Nat) (s' : RS), i + n = x.2 → a ≤ 10000 → FR [30, 31, 32, 33] [] [] s s' → s'.1 30 = (i : Nat) → s'.1 31 = (tSt x p : Nat) → s'.1 33 = (a : Nat) → tSt x p < x.2 → isFg (x.1 (tSt x p)) = true → nuN x.1 n i a = nuN x.1 (x.2 - tSt x p) (tSt x p) 0 → K 94 [some (mR 1000)] [] (hR w s') 0 0 := by
    intro n
    induction n with
    | zero =>
      intro i a s' hi ha hF h30 h31 h33 hst hfg hr
      have hT' := TPR_fr hT hF rfl rfl
      refine hK [] _ _ _ _ _ _ ?_
      refine ⟨w, s', x, i, by show [mR 1000, mI (s'.1 30)] = _; rw [h30], rfl, hT', ?_⟩
      have eb : byX x i = -1 := by unfold byX; rw [if_neg (by omega)]
      refine ⟨byX x i, rfl, ?_⟩
      rw [eb, ind_f (show isFg (-1) = false from rfl)]
      refine And.intro (fun _ => ?_) (fun q => absurd q (by omega))
      refine h2 (sI s' 32 (-3)) (FR_I hF rfl) ⟨?_, h31, ?_, fun _ => ?_, hp⟩
      · show s'.1 30 = _
        unfold tNx
        rw [if_pos hst, hfg, ← hr]
        exact h30
      · show (-3 : Int) = _
        unfold rtk tTk
        rw [if_pos hst, hfg]
        rfl
      · show s'.1 33 = _
        unfold tNm
        rw [if_pos hst, ← hr]
        exact h33
    | succ n ih =>
      intro i a s' hi ha hF h30 h31 h33 hst hfg hr
      have hT' := TPR_fr hT hF rfl rfl
      have hbi := (hT.2.2 i (by omega)).2
      have eb : byX x i = x.1 i := by unfold byX; rw [if_pos (by omega)]
      refine hK [94] _ _ _ _ _ _ ?_
      refine ⟨w, s', x, i, by show [mR 1000, mI (s'.1 30)] = _; rw [h30], rfl, hT', ?_⟩
      refine ⟨byX x i, rfl, ?_⟩
      rw [eb]
      refine And.intro (fun q => ?_) (fun q => ?_)
      · have hnf := ind_e0 q
        have hr2 : (i, a) = nuN x.1 (x.2 - tSt x p) (tSt x p) 0 := by rw [← hr]; unfold nuN; rw [hnf]
        refine h2 (sI s' 32 (-3)) (FR_I hF rfl) ⟨?_, h31, ?_, fun _ => ?_, hp⟩
        · show s'.1 30 = _
          unfold tNx
          rw [if_pos hst, hfg, ← hr2]
          exact h30
        · show (-3 : Int) = _
          unfold rtk tTk
          rw [if_pos hst, hfg]
          rfl
        · show s'.1 33 = _
          unfold tNm
          rw [if_pos hst, ← hr2]
          exact h33
      · have hf := ind_n0 q
        have hfd := of_decide_eq_true hf
        have hr2 : nuN x.1 n (i + 1) (min (a * 10 + (x.1 i - 48).toNat) 10000) = nuN x.1 (x.2 - tSt x p) (tSt x p) 0 := by rw [← hr]; conv => rhs; unfold nuN; rw [hf]
        conv => whnf
        rw [h33]
        refine And.intro (rng_of (by omega) (by omega)) ?_
        refine ⟨w, s', x, i, by show [mR 1000, mI (s'.1 30)] = _; rw [h30], rfl, hT', ?_⟩
        rw [eb]
        refine And.intro (rng_of (by omega) (by omega)) ?_
        refine And.intro (rng_of (by omega) (by omega)) ?_
        refine ⟨_, _, rfl, ?_⟩
        have em : (if 10 * ((a : Nat) : Int) + x.1 i - 48 < 10000 then 10 * ((a : Nat) : Int) + x.1 i - 48 else 10000) = ((min (a * 10 + (x.1 i - 48).toNat) 10000 : Nat) : Int) := by
          have hmin := Nat.min_def (n := a * 10 + (x.1 i - 48).toNat) (m := 10000)
          split at hmin <;> split <;> omega
        rw [em]
        conv => whnf
        rw [h30]
        refine And.intro (rng_of (by omega) (by omega)) ?_
        exact ih (i + 1) (min (a * 10 + (x.1 i - 48).toNat) 10000) (sI (sI s' 33 ((min (a * 10 + (x.1 i - 48).toNat) 10000 : Nat) : Int)) 30 ((i : Int) + 1)) (by omega) (Nat.min_le_right _ _) (FR_I (FR_I hF rfl) rfl) rfl h31 rfl hst hfg hr2
  -- behind the blanks
  have mid : ∀ (s' : RS), FR [30, 31, 32, 33] [] [] s s' → s'.1 30 = (tSt x p : Nat) → K 39 [some (mR 1000)] [] (hR w s') 0 0 := by
    intro s' hF h30
    have hT' : TPR x (sI s' 31 (s'.1 30)) := TPR_fr (s' := s') hT hF rfl rfl
    refine hK [94] _ _ _ _ _ _ ?_
    refine ⟨w, sI s' 31 (s'.1 30), x, tSt x p, by show [mR 1000, mI (s'.1 30)] = _; rw [h30], rfl, hT', ?_⟩
    by_cases hst : tSt x p < x.2
    · have eb : byX x (tSt x p) = x.1 (tSt x p) := by unfold byX; rw [if_pos hst]
      have hbi := (hT.2.2 _ hst).2
      rw [eb]
      refine And.intro (fun _ => ?_) (fun q => absurd q (by omega))
      refine ⟨x.1 (tSt x p), rfl, ?_⟩
      refine And.intro (fun q => ?_) (fun q => ?_)
      · have hf := ind_n0 q
        exact loopN (x.2 - tSt x p) (tSt x p) 0 (sI (sI (sI s' 31 (s'.1 30)) 32 (x.1 (tSt x p))) 33 0) (by omega) (by omega) (FR_I (FR_I (FR_I hF rfl) rfl) rfl) h30 h30 rfl hst hf rfl
      · have hf := ind_e0 q
        have hne : x.1 (tSt x p) ≠ -2 := by omega
        conv => whnf
        rw [h30]
        refine And.intro (rng_of (by omega) (by omega)) ?_
        refine h2 (sI (sI (sI s' 31 (tSt x p : Nat)) 32 (x.1 (tSt x p))) 30 (((tSt x p : Nat) : Int) + 1)) (FR_I (FR_I (FR_I hF rfl) rfl) rfl) ⟨?_, rfl, ?_, fun z => ?_, hp⟩
        · show ((tSt x p : Nat) : Int) + 1 = _
          unfold tNx
          rw [if_pos hst, hf]
          rfl
        · show x.1 (tSt x p) = _
          unfold rtk tTk
          rw [if_pos hst, hf]
          show x.1 (tSt x p) = if x.1 (tSt x p) = -2 then -3 else x.1 (tSt x p)
          rw [if_neg hne]
        · unfold tTk at z
          rw [if_pos hst, hf] at z
          exact absurd z hne
    · have eb : byX x (tSt x p) = -1 := by unfold byX; rw [if_neg hst]
      rw [eb]
      refine And.intro (fun q => absurd q (by omega)) (fun _ => ?_)
      have etk : tTk x p = -1 := by unfold tTk; rw [if_neg hst]
      refine h2 (sI (sI s' 31 (s'.1 30)) 32 (-1)) (FR_I (FR_I hF rfl) rfl) ⟨?_, h30, ?_, fun z => ?_, hp⟩
      · show s'.1 30 = _
        unfold tNx
        rw [if_neg hst]
        exact h30
      · show (-1 : Int) = rtk (tTk x p)
        rw [etk]
        rfl
      · rw [etk] at z
        cases z
  -- blanks
  have loopB : ∀ (n i : Nat) (s' : RS), i + n = x.2 → FR [30, 31, 32, 33] [] [] s s' → s'.1 30 = (i : Nat) → skN x.1 n i = tSt x p → K 0 [some (mR 1000)] [] (hR w s') 0 0 := by
    intro n
    induction n with
    | zero =>
      intro i s' hi hF h30 hr
      have hr : i = tSt x p := hr
      have hT' := TPR_fr hT hF rfl rfl
      have eb : byX x i = -1 := by unfold byX; rw [if_neg (by omega)]
      refine hK [39] _ _ _ _ _ _ ?_
      refine ⟨w, s', x, i, by show [mR 1000, mI (s'.1 30)] = _; rw [h30], rfl, hT', ?_⟩
      rw [eb]
      refine And.intro (fun q => absurd q (by omega)) (fun _ => ?_)
      refine ⟨w, s', x, i, by show [mR 1000, mI (s'.1 30)] = _; rw [h30], rfl, hT', ?_⟩
      rw [eb]
      refine And.intro (fun _ => ?_) (fun q => absurd q (by omega))
      exact mid s' hF (by rw [← hr]; exact h30)
    | succ n ih =>
      intro i s' hi hF h30 hr
      have hT' := TPR_fr hT hF rfl rfl
      have eb : byX x i = x.1 i := by unfold byX; rw [if_pos (by omega)]
      have on : (x.1 i = 32 ∨ x.1 i = 10) → K 26 [some (mR 1000)] [] (hR w s') 0 0 := fun q => by
        have hr2 : skN x.1 n (i + 1) = tSt x p := by rw [← hr]; conv => rhs; unfold skN; rw [if_pos q]
        refine hK [0] _ _ _ _ _ _ ?_
        conv => whnf
        rw [h30]
        refine And.intro (rng_of (by omega) (by omega)) ?_
        exact ih (i + 1) (sI s' 30 ((i : Int) + 1)) (by omega) (FR_I hF rfl) rfl hr2
      refine hK [26, 39] _ _ _ _ _ _ ?_
      refine ⟨w, s', x, i, by show [mR 1000, mI (s'.1 30)] = _; rw [h30], rfl, hT', ?_⟩
      rw [eb]
      refine And.intro (fun q => on (Or.inl q)) (fun q => ?_)
      refine ⟨w, s', x, i, by show [mR 1000, mI (s'.1 30)] = _; rw [h30], rfl, hT', ?_⟩
      rw [eb]
      refine And.intro (fun q2 => ?_) (fun q2 => on (Or.inr q2))
      have hr2 : i = tSt x p := by rw [← hr]; conv => rhs; unfold skN; rw [if_neg (fun z => z.elim q q2)]
      exact mid s' hF (by rw [← hr2]; exact h30)
  exact ⟨rfl, loopB (x.2 - p) p s (by omega) (FR_rf s) h30 rfl⟩
theorem m_X10_step (l : Launch) : mm_Met l yX10_step cX10_step 1 none 1 0 0 T_X10_step := mm_met3 (E := e_X10_step) (cd := kX10_step) s_X10_step (by decide) kX10_step_ok (by decide +kernel) (by decide +kernel) (Or.inl ⟨rfl, rfl⟩) rfl (mm_eok_X10 _) (mm_cq_cons (mm_CQ_of (mm_cbv wi_X10_byteAt (tb6 (i := 192) rfl rfl) (m_X10_byteAt l) (by decide) (by decide) rfl)) (mm_cq_cons (mm_CQ_of (mm_cbs wi_X10_isFigure (tb6 (i := 196) rfl rfl) (m_X10_isFigure l) (by decide) (by decide) rfl)) (mm_cq_cons (mm_CQ_min wi_J9_min_7cf53 (tb6 (i := 199) rfl rfl) (by omega)) (mm_cq_nil))))
