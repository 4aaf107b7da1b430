/-! the reference: plain atoms -/
def T_X10_readPlain : Tr := fun av h N _ => ∃ (w : FW) (s : RS) (a : AS) (x : TP) (p n : Nat) (E : Option (List VL)), av = [mR 1000, mI ((8 + n : Nat) : Int)] ∧ h = hR w s ∧ RW a x s ∧ PX x s (.inr p) ∧ RE (aF a) s E n ∧ n ≤ 20 ∧ ∀ s' : RS, FRq s s' → s'.1 37 = s.1 37 → s'.1 38 = s.1 38 → PO a x s' E n (pPlain x (aF a) p) → N none (hR w s')
abbrev e_X10_readPlain : NE := (ftX10, [(296, (2, 0, 0, false, (0, 10), T_X10_readNumber)), (267, (1, 0, 0, false, (0, 10), T_X10_isGoing)), (302, (3, 0, 0, false, (0, 10), T_X10_whole)), (275, (2, 0, 0, false, (0, 10), T_X10_comes)), (250, (2, 0, 0, false, (0, 10), T_X10_wrong)), (253, (1, 0, 0, false, (0, 10), T_X10_pass)), (333, (2, 0, 0, false, (0, 10), T_X10_readRoot)), (336, (2, 0, 0, false, (0, 10), T_X10_readPlace)), (339, (2, 0, 0, false, (0, 10), T_X10_readPeriod)), (342, (3, 0, 0, false, (0, 10), T_X10_readSum))], ltX10, [], [], false, 0, (0, 0), [], [], [], false)
set_option maxHeartbeats 8000000 in
theorem s_X10_readPlain : mm_Spec e_X10_readPlain kX10_readPlain 4 T_X10_readPlain := by
  rintro N X K av h hK ⟨w, s, a, x, p, n, E, rfl, rfl, hW, hP, hE, hn, h2⟩
  have hb := fbase hW.1.1.1
  have hA := hW.1
  have hT := hW.2.1
  have p1 := hP.1
  have hr := tTk_rng hT p
  have h32 := hP.2.2.2.1
  -- behind the sign: the sign's own reader
  have go : ∀ (s1 : RS) (F : AS → TP → Nat → PR (List OP)), FR [30, 31, 32, 33] [] [] s s1 → PX x s1 (.inr (tNx x p)) → pPlain x (aF a) p = F a x (tNx x p) → TA F [mR 1000, mI ((8 + n : Nat) : Int)] (hR w s1) N (fun _ _ => False) := by
    intro s1 F hF hP1 e
    rw [e] at h2
    have hF6 : FR F6 [] [] s s1 := FR_mono hF rfl rfl rfl
    have hFq := FRq_of hF6 rfl
    exact ⟨w, s1, a, x, .inr (tNx x p), n, E, rfl, rfl, RW_q hW hFq, hP1, RE_6 hE hF6 (by omega), hn, fun s' q1 q2 q3 q4 => h2 s' (FRq_tr hFq q1) (q2.trans (hF.1 37 rfl)) (q3.trans (hF.1 38 rfl)) q4⟩
  have goS : ∀ (s1 : RS) (g : Int), FR [30, 31, 32, 33] [] [] s s1 → PX x s1 (.inr (tNx x p)) → (g = 103 ∨ g = 106 ∨ g = 107) → pPlain x (aF a) p = pSum g a x (tNx x p) → T_X10_readSum [mR 1000, mI ((8 + n : Nat) : Int), mI g] (hR w s1) N (fun _ _ => False) := by
    intro s1 g hF hP1 hg e
    rw [e] at h2
    have hF6 : FR F6 [] [] s s1 := FR_mono hF rfl rfl rfl
    have hFq := FRq_of hF6 rfl
    exact ⟨w, s1, a, x, .inr (tNx x p), n, E, g, rfl, rfl, hg, RW_q hW hFq, hP1, RE_6 hE hF6 (by omega), hn, fun s' q1 q2 q3 q4 => h2 s' (FRq_tr hFq q1) (q2.trans (hF.1 37 rfl)) (q3.trans (hF.1 38 rfl)) q4⟩
  have is1 : ∀ c : Int, tTk x p = c → (c = 122 ∨ c = 103 ∨ c = 106 ∨ c = 107 ∨ c = 112 ∨ c = 35) → K 79 [some (mR 1000), some (mI ((8 + n : Nat) : Int)), some (mI c), none] [mI 1] (hR w s) 0 0 := by
    intro c hc hcs
    refine hK [] _ _ _ _ _ _ ?_
    refine And.intro (fun _ => ?_) (fun q => absurd q (by omega))
    refine ⟨w, s, x, .inr p, rfl, rfl, hT, hP, fun s1 hF hP1 => ?_⟩
    rcases hcs with rfl | rfl | rfl | rfl | rfl | rfl
    · refine And.intro (fun q => absurd q (by omega)) (fun _ => ?_)
      refine go s1 pRoot hF hP1 ?_
      unfold pPlain
      rw [hc]
      rfl
    · refine And.intro (fun _ => ?_) (fun q => absurd q (by omega))
      refine And.intro (fun _ => ?_) (fun q => absurd q (by omega))
      refine And.intro (fun _ => ?_) (fun q => absurd q (by omega))
      refine And.intro (fun q => absurd q (by omega)) (fun _ => ?_)
      refine goS s1 103 hF hP1 (Or.inl rfl) ?_
      unfold pPlain pSum
      rw [hc]
      rfl
    · refine And.intro (fun _ => ?_) (fun q => absurd q (by omega))
      refine And.intro (fun _ => ?_) (fun q => absurd q (by omega))
      refine And.intro (fun _ => ?_) (fun q => absurd q (by omega))
      refine And.intro (fun q => absurd q (by omega)) (fun _ => ?_)
      refine goS s1 106 hF hP1 (Or.inr (Or.inl rfl)) ?_
      unfold pPlain pSum
      rw [hc]
      rfl
    · refine And.intro (fun _ => ?_) (fun q => absurd q (by omega))
      refine And.intro (fun _ => ?_) (fun q => absurd q (by omega))
      refine And.intro (fun _ => ?_) (fun q => absurd q (by omega))
      refine And.intro (fun q => absurd q (by omega)) (fun _ => ?_)
      refine goS s1 107 hF hP1 (Or.inr (Or.inr rfl)) ?_
      unfold pPlain pSum
      rw [hc]
      rfl
    · refine And.intro (fun _ => ?_) (fun q => absurd q (by omega))
      refine And.intro (fun _ => ?_) (fun q => absurd q (by omega))
      refine And.intro (fun q => absurd q (by omega)) (fun _ => ?_)
      refine go s1 pPer hF hP1 ?_
      unfold pPlain
      rw [hc]
      rfl
    · refine And.intro (fun _ => ?_) (fun q => absurd q (by omega))
      refine And.intro (fun q => absurd q (by omega)) (fun _ => ?_)
      refine go s1 pPlc hF hP1 ?_
      unfold pPlain
      rw [hc]
      rfl
  refine ⟨rfl, hK [38, 79] _ _ _ _ _ _ ?_⟩
  conv => whnf
  rw [h32]
  refine And.intro (fun q => ?_) (fun q => ?_)
  · -- no number
    have q : ¬ tTk x p = -2 := fun z => q ((rtk_n hr.1).mpr z)
    have e : rtk (tTk x p) = tTk x p := by unfold rtk; rw [if_neg q]
    rw [e]
    have K38 : K 38 [some (mR 1000), some (mI ((8 + n : Nat) : Int)), some (mI (tTk x p)), none] [] (hR w s) 0 0 := by
      refine hK [79] _ _ _ _ _ _ ?_
      refine And.intro (fun q1 => ?_) (fun q1 => ?_)
      · rw [q1]; exact is1 122 q1 (by omega)
      refine And.intro (fun q2 => ?_) (fun q2 => ?_)
      · rw [q2]; exact is1 103 q2 (by omega)
      refine And.intro (fun q3 => ?_) (fun q3 => ?_)
      · rw [q3]; exact is1 106 q3 (by omega)
      refine And.intro (fun q4 => ?_) (fun q4 => ?_)
      · rw [q4]; exact is1 107 q4 (by omega)
      refine And.intro (fun q5 => ?_) (fun q5 => ?_)
      · rw [q5]; exact is1 112 q5 (by omega)
      refine And.intro (fun q6 => ?_) (fun q6 => ?_)
      · refine hK [] _ _ _ _ _ _ ?_
        refine And.intro (fun q => absurd q (by omega)) (fun _ => ?_)
        have hF1 : FR F6 [] [] s (sI (sI s 34 1) 35 (s.1 31)) := FR_I (FR_I (FR_rf s) rfl) rfl
        refine ⟨w, s, 1, rfl, rfl, fun z => absurd p1 z, fun _ => ?_⟩
        refine ⟨w, _, x, .inl (1, tSt x p), rfl, rfl, TPR_fr hT hF1 rfl rfl, PX_wrong (k := 1) hT hP (by omega), fun s1 hF hP1 => ?_⟩
        have hFq := FRq_of (FR_tr hF1 hF rfl rfl rfl) rfl
        refine And.intro (fun _ => ?_) (fun q => absurd q (by omega))
        refine And.intro (fun _ => ?_) (fun q => absurd q (by omega))
        refine And.intro (fun _ => ?_) (fun q => absurd q (by omega))
        refine And.intro (fun _ => ?_) (fun q => absurd q (by omega))
        refine h2 s1 hFq ((hF.1 37 rfl).trans (hF1.1 37 rfl)) ((hF.1 38 rfl).trans (hF1.1 38 rfl)) ?_
        unfold pPlain
        rw [if_neg q, if_neg q1, if_neg q2, if_neg q3, if_neg q4, if_neg q5, if_neg q6]
        exact hP1
      · rw [q6]; exact is1 35 q6 (by omega)
    exact K38
  · -- a number
    have q := (rtk_n hr.1).mp q
    have ep : pPlain x (aF a) p = pB (pL (pNum x (cLt 10000)) (.inr p)) (fun p v => .inr (p, [(0, (v : Int), 0, 0)])) := by
      unfold pPlain
      rw [if_pos q]
      rfl
    rw [ep] at h2
    refine ⟨w, s, x, .inr p, 9999, rfl, rfl, hT, hP, ?_⟩
    rw [cLe_lt (m := 9999) (k := 10000) rfl]
    intro s1 hF hP1
    have hE1 := RE_6 hE hF (by omega)
    have hFq := FRq_of hF rfl
    refine ⟨w, s1, rfl, rfl, ?_⟩
    cases hr : pL (pNum x (cLt 10000)) (.inr p) with
    | inl e =>
      rw [hr] at hP1 h2
      rw [going_bad hP1]
      refine And.intro (fun _ => ?_) (fun q => absurd q (by omega))
      exact h2 s1 hFq (hF.1 37 rfl) (hF.1 38 rfl) hP1
    | inr v =>
      rw [hr] at hP1 h2
      cases E with
      | none =>
        rw [going_none hE1]
        refine And.intro (fun _ => ?_) (fun q => absurd q (by omega))
        exact h2 s1 hFq (hF.1 37 rfl) (hF.1 38 rfl) ⟨hP1, hE1⟩
      | some L =>
        rw [going_some hE1 hP1.1]
        refine And.intro (fun q => absurd q (by omega)) (fun _ => ?_)
        refine ⟨w, s1, aF a, 8 + n, Int64.ofInt (v.2 : Int), rfl, rfl, (RA_q hA hFq).2.1, by omega, fun Lf hL hs => ?_⟩
        refine comes_of (s := s1) (by omega) hE1 hs hL (fun s' hFa hFb hE2 => ?_)
        exact h2 s' (FRq_tr hFq hFa) ((hFb.1 37 rfl).trans (hF.1 37 rfl)) ((hFb.1 38 rfl).trans (hF.1 38 rfl)) ⟨PX_fr hP1 hFb rfl, hE2⟩
theorem m_X10_readPlain (l : Launch) : mm_Met l yX10_readPlain cX10_readPlain 4 none 6 0 0 T_X10_readPlain := mm_met (E := e_X10_readPlain) (cd := kX10_readPlain) s_X10_readPlain (by decide) kX10_readPlain_ok (by decide +kernel) (by decide +kernel) (Or.inl ⟨rfl, rfl⟩) rfl (mm_eok_X10 _) (mm_calls_cons (mm_cbv wi_X10_readNumber (tb7 (i := 45) rfl rfl) (m_X10_readNumber l) (by decide) (by decide) rfl) (mm_calls_cons (mm_cbv wi_X10_isGoing (tb6 (i := 232) rfl rfl) (m_X10_isGoing l) (by decide) (by decide) rfl) (mm_calls_cons (mm_cbv wi_X10_whole (tb7 (i := 53) rfl rfl) (m_X10_whole l) (by decide) (by decide) rfl) (mm_calls_cons (mm_cbv wi_X10_comes (tb7 (i := 14) rfl rfl) (m_X10_comes l) (by decide) (by decide) rfl) (mm_calls_cons (mm_cbv wi_X10_wrong (tb6 (i := 220) rfl rfl) (m_X10_wrong l) (by decide) (by decide) rfl) (mm_calls_cons (mm_cbv wi_X10_pass (tb6 (i := 224) rfl rfl) (m_X10_pass l) (by decide) (by decide) rfl) (mm_calls_cons (mm_cbv wi_X10_readRoot (tb7 (i := 57) rfl rfl) (m_X10_readRoot l) (by decide) (by decide) rfl) (mm_calls_cons (mm_cbv wi_X10_readPlace (tb7 (i := 61) rfl rfl) (m_X10_readPlace l) (by decide) (by decide) rfl) (mm_calls_cons (mm_cbv wi_X10_readPeriod (tb7 (i := 65) rfl rfl) (m_X10_readPeriod l) (by decide) (by decide) rfl) (mm_calls_cons (mm_cbv wi_X10_readSum (tb7 (i := 81) rfl rfl) (m_X10_readSum l) (by decide) (by decide) rfl) (mm_calls_nil)))))))))))
