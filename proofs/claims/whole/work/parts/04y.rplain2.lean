/-! the reference: periods, sums, plain atoms -/
theorem pTwo_eq {x : TP} {w : Nat} {c1 : Nat → Bool} {c2 : Nat → Nat → Bool} {P : PP} : pL (pTwo x w c1 c2) P = pB (pL (pNum x (c2 (pVl 0 (pL (pNum x c1) P)))) (pSt (pL (pSkip x 46) (pSt (pL (pNum x c1) P))))) (fun p b => .inr (p, [(w, ((pVl 0 (pL (pNum x c1) P) : Nat) : Int), (b : Int), 0)])) := by
  cases P with
  | inl e => rfl
  | inr p =>
    show pTwo x w c1 c2 p = pB (pL (pNum x (c2 (pVl 0 (pNum x c1 p)))) (pSt (pL (pSkip x 46) (pSt (pNum x c1 p))))) (fun p' b => .inr (p', [(w, ((pVl 0 (pNum x c1 p) : Nat) : Int), (b : Int), 0)]))
    unfold pTwo
    cases h1 : pNum x c1 p with
    | inl e => rfl
    | inr v =>
      show pB (pSkip x 46 v.1) _ = pB (pL (pNum x (c2 v.2)) (pSt (pSkip x 46 v.1))) (fun p' b => .inr (p', [(w, ((v.2 : Nat) : Int), (b : Int), 0)]))
      cases h2 : pSkip x 46 v.1 with
      | inl e => rfl
      | inr u => rfl
abbrev pPer (a : AS) (x : TP) : Nat → PR (List OP) := pTwo x 5 (cCl (aF a)) (fun e => cLt e)
abbrev T_X10_readPeriod : Tr := TA pPer
abbrev e_X10_readPeriod : NE := (ftX10, [(345, (3, 0, 0, false, (0, 10), T_X10_isClass)), (250, (2, 0, 0, false, (0, 10), T_X10_wrong)), (296, (2, 0, 0, false, (0, 10), T_X10_readNumber)), (315, (2, 0, 0, false, (0, 10), T_X10_must)), (267, (1, 0, 0, false, (0, 10), T_X10_isGoing)), (349, (4, 0, 0, false, (0, 10), T_X10_period)), (275, (2, 0, 0, false, (0, 10), T_X10_comes))], ltX10, [], [], false, 0, (0, 0), [], [], [], false)
theorem FR_6 {s s1 s2 : RS} (h : FR F6 [] [] s s1) (h2 : FR F6 [] [] s1 s2) : FR F6 [] [] s s2 := FR_tr h h2 rfl rfl rfl
set_option maxHeartbeats 4000000 in
theorem s_X10_readPeriod : mm_Spec e_X10_readPeriod kX10_readPeriod 4 T_X10_readPeriod := by
  rintro N X K av h hK ⟨w, s, a, x, P, n, E, rfl, rfl, hW, hP, hE, hn, h2⟩
  have hb := fbase hW.1.1.1
  have hA := hW.1
  have hT := hW.2.1
  rw [pTwo_eq] at h2
  obtain ⟨r1, hr1⟩ : ∃ r1, r1 = pL (pNum x (cCl (aF a))) P := ⟨_, rfl⟩
  rw [← hr1] at h2
  -- behind the test
  have fin : ∀ (s1 : RS) (P1 : PP), FR F6 [] [] s s1 → PX x s1 P1 → pL (pNum x (cLe 9999)) P1 = r1 → K 33 [some (mR 1000), some (mI ((8 + n : Nat) : Int)), none, none] [] (hR w s1) 0 0 := by
    intro s1 P1 hF hP1 e1
    have hv1 : pVl 0 r1 ≤ 10000 := by
      cases hz : r1 with
      | inl e => exact Nat.zero_le _
      | inr v => rw [hz] at e1; exact (pNum_val e1).2
    refine hK [] _ _ _ _ _ _ ?_
    refine ⟨w, s1, x, P1, 9999, rfl, rfl, TPR_fr hT hF rfl rfl, hP1, ?_⟩
    rw [e1]
    intro s2 hF2 hP2
    refine ⟨w, s2, x, pSt r1, 46, rfl, rfl, TPR_fr hT (FR_6 hF hF2) rfl rfl, hP2, by omega, fun s3 hF3 hP3 => ?_⟩
    refine And.intro (rng_of (by omega) (by omega)) ?_
    refine ⟨w, s3, x, _, _, rfl, rfl, TPR_fr hT (FR_6 (FR_6 hF hF2) hF3) rfl rfl, hP3, ?_⟩
    rw [cLe_lt (m := ((pVl 0 r1 : Nat) : Int) - 1) rfl]
    intro s4 hF4 hP4
    have hF' : FR F6 [] [] s s4 := FR_6 (FR_6 (FR_6 hF hF2) hF3) hF4
    have hE4 := RE_6 hE hF' (by omega)
    have hFq := FRq_of hF' rfl
    refine ⟨w, s4, rfl, rfl, ?_⟩
    cases hr : pL (pNum x (cLt (pVl 0 r1))) (pSt (pL (pSkip x 46) (pSt r1))) with
    | inl e =>
      rw [hr] at hP4 h2
      rw [going_bad hP4]
      refine And.intro (fun _ => ?_) (fun q => absurd q (by omega))
      exact h2 s4 hFq (hF'.1 37 rfl) (hF'.1 38 rfl) hP4
    | inr v =>
      have hv := pNum_val hr
      have hvn : v.2 < pVl 0 r1 := mm_blt_t hv.1
      rw [hr] at hP4 h2
      cases E with
      | none =>
        rw [going_none hE4]
        refine And.intro (fun _ => ?_) (fun q => absurd q (by omega))
        exact h2 s4 hFq (hF'.1 37 rfl) (hF'.1 38 rfl) ⟨hP4, hE4⟩
      | some L =>
        have hcl : cCl (aF a) (pVl 0 r1) = true := by
          cases hz : r1 with
          | inl e => rw [hz] at hvn; exact absurd hvn (Nat.not_lt_zero _)
          | inr u => rw [hz] at hr1; exact (pNum_val hr1.symm).1
        have hk := of_decide_eq_true hcl
        have hle : pVl 0 r1 ≤ fQ (aF a) - 1 := by
          have h4 := hk.2.1
          rw [show (fQ (aF a) : Int) - 1 = ((fQ (aF a) - 1 : Nat) : Int) by omega] at h4
          exact Nat.le_of_dvd (by omega) (Nat.dvd_of_mod_eq_zero (by omega))
        rw [going_some hE4 hP4.1]
        refine And.intro (fun q => absurd q (by omega)) (fun _ => ?_)
        refine ⟨w, s4, aF a, 8 + n, pVl 0 r1, v.2, rfl, rfl, RA_q hA hFq, by omega, by omega, by omega, by omega, fun Lf hL hs => ?_⟩
        refine comes_of (s := s4) (by omega) hE4 hs hL (fun s' hFa hFb hE2 => ?_)
        exact h2 s' (FRq_tr hFq hFa) ((hFb.1 37 rfl).trans (hF'.1 37 rfl)) ((hFb.1 38 rfl).trans (hF'.1 38 rfl)) ⟨PX_fr hP4 hFb rfl, hE2⟩
  refine ⟨rfl, hK [33] _ _ _ _ _ _ ?_⟩
  cases P with
  | inl e =>
    have p1 := hP.1
    have p2 := hP.2.1
    refine And.intro (fun _ => ?_) (fun q => absurd q (by omega))
    exact fin s (.inl e) (FR_rf s) hP hr1.symm
  | inr p =>
    have p1 := hP.1
    have hr := tTk_rng hT p
    refine And.intro (fun q => absurd q (by omega)) (fun _ => ?_)
    conv => whnf
    rw [hP.2.2.2.1]
    refine And.intro (fun q => ?_) (fun q => ?_)
    · have q : ¬ tTk x p = -2 := fun z => q ((rtk_n hr.1).mpr z)
      refine fin s (.inr p) (FR_rf s) hP ?_
      rw [hr1]
      show pNum x (cLe 9999) p = pNum x (cCl (aF a)) p
      unfold pNum
      rw [if_neg q, if_neg q]
    · have q := (rtk_n hr.1).mp q
      have hnm := hP.2.2.2.2.1 q
      have hnl := tNm_le x p
      refine ⟨w, s, (tNm x p : Nat), 0, fQ (aF a), by show [mR 1000, mI (s.1 33), mI 0] = _; rw [hnm], rfl, rng_nat (by omega), rng_of (by omega) (by omega), hA.1.2.2.2.1, by omega, by omega, ?_⟩
      refine And.intro (fun q2 => ?_) (fun q2 => ?_)
      · have q2 := bi_c1 q2
        have hle : tNm x p ≤ fQ (aF a) - 1 := by
          have h4 := q2.2.1
          rw [show (fQ (aF a) : Int) - 1 = ((fQ (aF a) - 1 : Nat) : Int) by omega] at h4
          exact Nat.le_of_dvd (by omega) (Nat.dvd_of_mod_eq_zero (by omega))
        refine fin s (.inr p) (FR_rf s) hP ?_
        rw [hr1]
        show pNum x (cLe 9999) p = pNum x (cCl (aF a)) p
        unfold pNum
        rw [if_pos q, if_pos q, show cLe 9999 (tNm x p) = true from decide_eq_true (by omega), show cCl (aF a) (tNm x p) = true from decide_eq_true q2]
      · have q2 := bi_c0 q2
        refine ⟨w, s, 2, rfl, rfl, fun z => absurd p1 z, fun _ => ?_⟩
        refine fin _ (.inl (2, tSt x p)) (FR_I (FR_I (FR_rf s) rfl) rfl) (PX_wrong (k := 2) hT hP (by omega)) ?_
        rw [hr1]
        show _ = pNum x (cCl (aF a)) p
        unfold pNum
        rw [if_pos q, show cCl (aF a) (tNm x p) = false from decide_eq_false q2]
        rfl
theorem m_X10_readPeriod (l : Launch) : mm_Met l yX10_readPeriod cX10_readPeriod 4 none 4 0 0 T_X10_readPeriod := mm_met (E := e_X10_readPeriod) (cd := kX10_readPeriod) s_X10_readPeriod (by decide) kX10_readPeriod_ok (by decide +kernel) (by decide +kernel) (Or.inl ⟨rfl, rfl⟩) rfl (mm_eok_X10 _) (mm_calls_cons (mm_cbv wi_X10_isClass (tb7 (i := 69) rfl rfl) (m_X10_isClass l) (by decide) (by decide) rfl) (mm_calls_cons (mm_cbv wi_X10_wrong (tb6 (i := 220) rfl rfl) (m_X10_wrong l) (by decide) (by decide) rfl) (mm_calls_cons (mm_cbv wi_X10_readNumber (tb7 (i := 45) rfl rfl) (m_X10_readNumber l) (by decide) (by decide) rfl) (mm_calls_cons (mm_cbv wi_X10_must (tb6 (i := 228) rfl rfl) (m_X10_must l) (by decide) (by decide) rfl) (mm_calls_cons (mm_cbv wi_X10_isGoing (tb6 (i := 232) rfl rfl) (m_X10_isGoing l) (by decide) (by decide) rfl) (mm_calls_cons (mm_cbv wi_X10_period (tb7 (i := 73) rfl rfl) (m_X10_period l) (by decide) (by decide) rfl) (mm_calls_cons (mm_cbv wi_X10_comes (tb7 (i := 14) rfl rfl) (m_X10_comes l) (by decide) (by decide) rfl) (mm_calls_nil))))))))
def pThr (x : TP) (c1 c2 c3 : Nat → Bool) (p : Nat) : PR (List OP) := pB (pNum x c1 p) (fun p i => pB (pSkip x 46 p) (fun p _ => pB (pNum x c2 p) (fun p j => pB (pSkip x 46 p) (fun p _ => pB (pNum x c3 p) (fun p c => .inr (p, [(3, (i : Int), (j : Int), (c : Int))]))))))
theorem pThr_eq {x : TP} {c1 c2 c3 : Nat → Bool} {P : PP} : pL (pThr x c1 c2 c3) P =
    pB (pL (pNum x c3) (pSt (pL (pSkip x 46) (pSt (pL (pNum x c2) (pSt (pL (pSkip x 46) (pSt (pL (pNum x c1) P))))))))) (fun p c => .inr (p, [(3, ((pVl 0 (pL (pNum x c1) P) : Nat) : Int), ((pVl 0 (pL (pNum x c2) (pSt (pL (pSkip x 46) (pSt (pL (pNum x c1) P))))) : Nat) : Int), (c : Int))])) := by
  cases P with
  | inl e => rfl
  | inr p =>
    show pThr x c1 c2 c3 p = pB (pL (pNum x c3) (pSt (pL (pSkip x 46) (pSt (pL (pNum x c2) (pSt (pL (pSkip x 46) (pSt (pNum x c1 p)))))))))  (fun p' c => .inr (p', [(3, ((pVl 0 (pNum x c1 p) : Nat) : Int), ((pVl 0 (pL (pNum x c2) (pSt (pL (pSkip x 46) (pSt (pNum x c1 p))))) : Nat) : Int), (c : Int))]))
    unfold pThr
    cases h1 : pNum x c1 p with
    | inl e => rfl
    | inr v =>
      show pB (pSkip x 46 v.1) _ = pB (pL (pNum x c3) (pSt (pL (pSkip x 46) (pSt (pL (pNum x c2) (pSt (pSkip x 46 v.1))))))) (fun p' c => .inr (p', [(3, ((v.2 : Nat) : Int), ((pVl 0 (pL (pNum x c2) (pSt (pSkip x 46 v.1))) : Nat) : Int), (c : Int))]))
      cases h2 : pSkip x 46 v.1 with
      | inl e => rfl
      | inr u =>
        show pB (pNum x c2 u.1) _ = pB (pL (pNum x c3) (pSt (pL (pSkip x 46) (pSt (pNum x c2 u.1))))) (fun p' c => .inr (p', [(3, ((v.2 : Nat) : Int), ((pVl 0 (pNum x c2 u.1) : Nat) : Int), (c : Int))]))
        cases h3 : pNum x c2 u.1 with
        | inl e => rfl
        | inr t =>
          show pB (pSkip x 46 t.1) _ = pB (pL (pNum x c3) (pSt (pSkip x 46 t.1))) (fun p' c => .inr (p', [(3, ((v.2 : Nat) : Int), ((t.2 : Nat) : Int), (c : Int))]))
          cases h4 : pSkip x 46 t.1 with
          | inl e => rfl
          | inr r => rfl
def pSum (g : Int) (a : AS) (x : TP) : Nat → PR (List OP) := if g = 103 then pTwo x 2 (cLt (fQ (aF a) - 1)) (fun _ => cLt (fQ (aF a))) else if g = 107 then pTwo x 4 (cLt (fQ (aF a))) (fun _ => cLt (fQ (aF a))) else pThr x (cLt (fQ (aF a) - 1)) (cLt (fQ (aF a) - 1)) (cLt (fQ (aF a)))
def T_X10_readSum : Tr := fun av h N _ => ∃ (w : FW) (s : RS) (a : AS) (x : TP) (P : PP) (n : Nat) (E : Option (List VL)) (g : Int), av = [mR 1000, mI ((8 + n : Nat) : Int), mI g] ∧ h = hR w s ∧ (g = 103 ∨ g = 106 ∨ g = 107) ∧ RW a x s ∧ PX x s P ∧ RE (aF a) s E n ∧ n ≤ 20 ∧ ∀ s' : RS, FRq s s' → s'.1 37 = s.1 37 → s'.1 38 = s.1 38 → PO a x s' E n (pL (pSum g a x) P) → N none (hR w s')
abbrev e_X10_readSum : NE := (ftX10, [(352, (1, 0, 0, false, (0, 10), T_X10_readElement)), (355, (1, 0, 0, false, (0, 10), T_X10_readCharacter)), (315, (2, 0, 0, false, (0, 10), T_X10_must)), (267, (1, 0, 0, false, (0, 10), T_X10_isGoing)), (358, (4, 0, 0, false, (0, 10), T_X10_gauss)), (361, (4, 0, 0, false, (0, 10), T_X10_kloosterman)), (364, (5, 0, 0, false, (0, 10), T_X10_jacobi)), (275, (2, 0, 0, false, (0, 10), T_X10_comes))], ltX10, [], [], false, 0, (0, 0), [], [], [], false)
theorem pVl_lt {x : TP} {m : Nat} {P : PP} (hm : 0 < m) : pVl 0 (pL (pNum x (cLt m)) P) < m := by
  cases h : pL (pNum x (cLt m)) P with
  | inl e => exact hm
  | inr v => exact mm_blt_t (pNum_val h).1
set_option maxHeartbeats 8000000 in
theorem s_X10_readSum : mm_Spec e_X10_readSum kX10_readSum 6 T_X10_readSum := by
  rintro N X K av h hK ⟨w, s, a, x, P, n, E, g, rfl, rfl, hg, hW, hP, hE, hn, h2⟩
  have hb := fbase hW.1.1.1
  have hA := hW.1
  have hT := hW.2.1
  -- the last number has been read
  have fin : ∀ (s4 : RS) (P4 : PP) (u v t : Nat) (r : PR Nat) (G : Nat → Nat → PR (List OP)), FR F6 [] [] s s4 → PX x s4 P4 → P4 = pSt r → pL (pSum g a x) P = pB r G → (∀ q : Nat × Nat, r = .inr q → ∃ o : OP, G q.1 q.2 = .inr (q.1, [o]) ∧ ∀ L : List VL, (g = 103 → u < 27 ∧ v < fQ (aF a) ∧ evO a o L = tst (aF a) (gauV (aF a) u v) L) ∧ (g = 107 → u < fQ (aF a) ∧ v < fQ (aF a) ∧ evO a o L = tst (aF a) (kloV (aF a) u v) L) ∧ (g = 106 → u < 27 ∧ v < 27 ∧ t < fQ (aF a) ∧ evO a o L = tst (aF a) (jacV (aF a) u v t) L)) → K 64 [some (mR 1000), some (mI ((8 + n : Nat) : Int)), some (mI g), some (mI (u : Int)), some (mI (v : Int)), some (mI (t : Int))] [] (hR w s4) 0 0 := by
    intro s4 P4 u v t r G hF hP4 e4 er hG
    have hE4 := RE_6 hE hF (by omega)
    have hFq := FRq_of hF rfl
    rw [er] at h2
    refine hK [] _ _ _ _ _ _ ?_
    refine ⟨w, s4, rfl, rfl, ?_⟩
    cases hr : r with
    | inl e =>
      rw [hr] at e4 h2
      rw [e4] at hP4
      rw [going_bad hP4]
      refine And.intro (fun q => absurd q (by omega)) (fun _ => ?_)
      exact h2 s4 hFq (hF.1 37 rfl) (hF.1 38 rfl) hP4
    | inr q =>
      obtain ⟨o, ho, hL0⟩ := hG q hr
      rw [hr] at e4 h2
      rw [e4] at hP4
      have h2 : ∀ s' : RS, FRq s s' → s'.1 37 = s.1 37 → s'.1 38 = s.1 38 → PO a x s' E n (G q.1 q.2) → N none (hR w s') := h2
      rw [ho] at h2
      cases E with
      | none =>
        rw [going_none hE4]
        refine And.intro (fun q => absurd q (by omega)) (fun _ => ?_)
        exact h2 s4 hFq (hF.1 37 rfl) (hF.1 38 rfl) ⟨hP4, hE4⟩
      | some L =>
        obtain ⟨l1, l2, l3⟩ := hL0 L
        have done : ∀ (V : VL) (s' : RS), evO a o L = tst (aF a) V L → FRq s4 s' → FR [40] [] [18, 24, 25] s4 s' → RE (aF a) s' (tst (aF a) V L) (n + 1) → N none (hR w s') := fun V s' e hFa hFb hE2 => h2 s' (FRq_tr hFq hFa) ((hFb.1 37 rfl).trans (hF.1 37 rfl)) ((hFb.1 38 rfl).trans (hF.1 38 rfl)) ⟨PX_fr hP4 hFb rfl, by rw [evs_1, e]; exact hE2⟩
        rw [going_some hE4 hP4.1]
        refine And.intro (fun _ => ?_) (fun q => absurd q (by omega))
        rcases hg with rfl | rfl | rfl
        · obtain ⟨b1, b2, b3⟩ := l1 rfl
          refine And.intro (fun q => absurd q (by omega)) (fun _ => ?_)
          refine ⟨w, s4, aF a, 8 + n, u, v, rfl, rfl, RA_q hA hFq, by omega, by omega, b2, fun Lf hL hs => ?_⟩
          exact comes_of (s := s4) (by omega) hE4 hs hL (fun s' hFa hFb hE2 => done _ s' b3 hFa hFb hE2)
        · obtain ⟨b1, b2, b3, b4⟩ := l3 rfl
          refine And.intro (fun _ => ?_) (fun q => absurd q (by omega))
          refine And.intro (fun _ => ?_) (fun q => absurd q (by omega))
          refine ⟨w, s4, aF a, 8 + n, u, v, t, rfl, rfl, RA_q hA hFq, by omega, by omega, by omega, b3, fun Lf hL hs => ?_⟩
          exact comes_of (s := s4) (by omega) hE4 hs hL (fun s' hFa hFb hE2 => done _ s' b4 hFa hFb hE2)
        · obtain ⟨b1, b2, b3⟩ := l2 rfl
          refine And.intro (fun _ => ?_) (fun q => absurd q (by omega))
          refine And.intro (fun q => absurd q (by omega)) (fun _ => ?_)
          refine ⟨w, s4, aF a, 8 + n, u, v, rfl, rfl, RA_q hA hFq, by omega, b1, b2, fun Lf hL hs => ?_⟩
          exact comes_of (s := s4) (by omega) hE4 hs hL (fun s' hFa hFb hE2 => done _ s' b3 hFa hFb hE2)
  refine ⟨rfl, hK [64] _ _ _ _ _ _ ?_⟩
  rcases hg with rfl | rfl | rfl
  · -- g
    refine And.intro (fun _ => ?_) (fun q => absurd q (by omega))
    refine ⟨w, s, aF a, x, P, rfl, rfl, hA.1, hT, hP, fun s1 hF1 hP1 => ?_⟩
    refine ⟨w, s1, x, _, 46, rfl, rfl, TPR_fr hT hF1 rfl rfl, hP1, by omega, fun s2 hF2 hP2 => ?_⟩
    have hF12 := FR_6 hF1 hF2
    refine And.intro (fun _ => ?_) (fun q => absurd q (by omega))
    refine ⟨w, s2, aF a, x, _, rfl, rfl, RT_fr hA.1 hF12 rfl rfl rfl rfl rfl, TPR_fr hT hF12 rfl rfl, hP2, fun s3 hF3 hP3 => ?_⟩
    refine And.intro (fun _ => ?_) (fun q => absurd q (by omega))
    refine fin s3 _ _ _ 0 _ (fun p b => .inr (p, [(2, ((pVl 0 (pL (pNum x (cLt (fQ (aF a) - 1))) P) : Nat) : Int), (b : Int), 0)])) (FR_6 hF12 hF3) hP3 rfl ?_ (fun q hq => ?_)
    · show pL (pSum 103 a x) P = _
      unfold pSum
      rw [if_pos rfl]
      exact pTwo_eq
    · have hu := pVl_lt (x := x) (m := fQ (aF a) - 1) (P := P) (by omega)
      refine ⟨_, rfl, fun L => ⟨fun _ => ⟨by omega, pVl_lt (by omega), ?_⟩, fun z => absurd z (by decide), fun z => absurd z (by decide)⟩⟩
      rw [hq]
      rfl
  · -- j
    refine And.intro (fun _ => ?_) (fun q => absurd q (by omega))
    refine ⟨w, s, aF a, x, P, rfl, rfl, hA.1, hT, hP, fun s1 hF1 hP1 => ?_⟩
    refine ⟨w, s1, x, _, 46, rfl, rfl, TPR_fr hT hF1 rfl rfl, hP1, by omega, fun s2 hF2 hP2 => ?_⟩
    have hF12 := FR_6 hF1 hF2
    refine And.intro (fun q => absurd q (by omega)) (fun _ => ?_)
    refine ⟨w, s2, aF a, x, _, rfl, rfl, RT_fr hA.1 hF12 rfl rfl rfl rfl rfl, TPR_fr hT hF12 rfl rfl, hP2, fun s3 hF3 hP3 => ?_⟩
    have hF13 := FR_6 hF12 hF3
    refine And.intro (fun q => absurd q (by omega)) (fun _ => ?_)
    refine ⟨w, s3, x, _, 46, rfl, rfl, TPR_fr hT hF13 rfl rfl, hP3, by omega, fun s4 hF4 hP4 => ?_⟩
    have hF14 := FR_6 hF13 hF4
    refine ⟨w, s4, aF a, x, _, rfl, rfl, RT_fr hA.1 hF14 rfl rfl rfl rfl rfl, TPR_fr hT hF14 rfl rfl, hP4, fun s5 hF5 hP5 => ?_⟩
    refine fin s5 _ _ _ _ _ (fun p c => .inr (p, [(3, ((pVl 0 (pL (pNum x (cLt (fQ (aF a) - 1))) P) : Nat) : Int), ((pVl 0 (pL (pNum x (cLt (fQ (aF a) - 1))) (pSt (pL (pSkip x 46) (pSt (pL (pNum x (cLt (fQ (aF a) - 1))) P))))) : Nat) : Int), (c : Int))])) (FR_6 hF14 hF5) hP5 rfl ?_ (fun q hq => ?_)
    · show pL (pSum 106 a x) P = _
      unfold pSum
      rw [if_neg (by decide), if_neg (by decide)]
      exact pThr_eq
    · have hu := pVl_lt (x := x) (m := fQ (aF a) - 1) (P := P) (by omega)
      have hv := pVl_lt (x := x) (m := fQ (aF a) - 1) (P := pSt (pL (pSkip x 46) (pSt (pL (pNum x (cLt (fQ (aF a) - 1))) P)))) (by omega)
      refine ⟨_, rfl, fun L => ⟨fun z => absurd z (by decide), fun z => absurd z (by decide), fun _ => ⟨by omega, by omega, pVl_lt (by omega), ?_⟩⟩⟩
      rw [hq]
      rfl
  · -- k
    refine And.intro (fun q => absurd q (by omega)) (fun _ => ?_)
    refine ⟨w, s, aF a, x, P, rfl, rfl, hA.1, hT, hP, fun s1 hF1 hP1 => ?_⟩
    refine ⟨w, s1, x, _, 46, rfl, rfl, TPR_fr hT hF1 rfl rfl, hP1, by omega, fun s2 hF2 hP2 => ?_⟩
    have hF12 := FR_6 hF1 hF2
    refine And.intro (fun _ => ?_) (fun q => absurd q (by omega))
    refine ⟨w, s2, aF a, x, _, rfl, rfl, RT_fr hA.1 hF12 rfl rfl rfl rfl rfl, TPR_fr hT hF12 rfl rfl, hP2, fun s3 hF3 hP3 => ?_⟩
    refine And.intro (fun _ => ?_) (fun q => absurd q (by omega))
    refine fin s3 _ _ _ 0 _ (fun p b => .inr (p, [(4, ((pVl 0 (pL (pNum x (cLt (fQ (aF a)))) P) : Nat) : Int), (b : Int), 0)])) (FR_6 hF12 hF3) hP3 rfl ?_ (fun q hq => ?_)
    · show pL (pSum 107 a x) P = _
      unfold pSum
      rw [if_neg (by decide), if_pos rfl]
      exact pTwo_eq
    · refine ⟨_, rfl, fun L => ⟨fun z => absurd z (by decide), fun _ => ⟨pVl_lt (by omega), pVl_lt (by omega), ?_⟩, fun z => absurd z (by decide)⟩⟩
      rw [hq]
      rfl
theorem m_X10_readSum (l : Launch) : mm_Met l yX10_readSum cX10_readSum 6 none 5 0 0 T_X10_readSum := mm_met (E := e_X10_readSum) (cd := kX10_readSum) s_X10_readSum (by decide) kX10_readSum_ok (by decide +kernel) (by decide +kernel) (Or.inl ⟨rfl, rfl⟩) rfl (mm_eok_X10 _) (mm_calls_cons (mm_cbv wi_X10_readElement (tb7 (i := 85) rfl rfl) (m_X10_readElement l) (by decide) (by decide) rfl) (mm_calls_cons (mm_cbv wi_X10_readCharacter (tb7 (i := 89) rfl rfl) (m_X10_readCharacter l) (by decide) (by decide) rfl) (mm_calls_cons (mm_cbv wi_X10_must (tb6 (i := 228) rfl rfl) (m_X10_must l) (by decide) (by decide) rfl) (mm_calls_cons (mm_cbv wi_X10_isGoing (tb6 (i := 232) rfl rfl) (m_X10_isGoing l) (by decide) (by decide) rfl) (mm_calls_cons (mm_cbv wi_X10_gauss (tb7 (i := 93) rfl rfl) (m_X10_gauss l) (by decide) (by decide) rfl) (mm_calls_cons (mm_cbv wi_X10_kloosterman (tb7 (i := 101) rfl rfl) (m_X10_kloosterman l) (by decide) (by decide) rfl) (mm_calls_cons (mm_cbv wi_X10_jacobi (tb7 (i := 109) rfl rfl) (m_X10_jacobi l) (by decide) (by decide) rfl) (mm_calls_cons (mm_cbv wi_X10_comes (tb7 (i := 14) rfl rfl) (m_X10_comes l) (by decide) (by decide) rfl) (mm_calls_nil)))))))))
