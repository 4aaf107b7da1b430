/-! the component's reader: periods, Jacobi sums -/
theorem hb_cl {x : TP} {c : CS} {P : PP} {f : Nat} (hP : PXc x c P) : ∀ p, P = .inr p → tTk x p = -2 → bi (okK1 f (c.1 20)) = (ind (cCl f (tNm x p)) : Nat) := by
  intro p hp _
  subst hp
  rw [hP.2.2.2.2.1]
  by_cases q : okK1 f ((tNm x p : Nat) : Int)
  · rw [bi_t q, ind_t (show cCl f (tNm x p) = true from decide_eq_true ⟨q.1, q.2, by omega, by have := q.1; omega⟩)]
  · rw [bi_f q, ind_f (show cCl f (tNm x p) = false from decide_eq_false (fun z => q ⟨z.1, z.2.1⟩))]
abbrev T_X3_readPeriod : Tr := TB pPec
abbrev e_X3_readPeriod : NE := (ftX3, [(53, (1, 0, 0, false, (0, 3), T_X3_advance)), (123, (2, 0, 0, false, (0, 1), T_X1_hasClasses)), (82, (2, 0, 0, false, (0, 3), T_X3_readNumber)), (120, (2, 0, 0, false, (0, 3), T_X3_skip)), (69, (5, 0, 0, false, (0, 2), T_X2_add))], ltX3, [], [], false, 0, (0, 0), [], [], [], true)
set_option maxHeartbeats 4000000 in
theorem s_X3_readPeriod : mm_Spec e_X3_readPeriod kX3_readPeriod 2 T_X3_readPeriod := by
  rintro N X K av h hK ⟨w, c, f, x, P, ops, rfl, rfl, ⟨hF, hG⟩, hT, hP, hQ, h2⟩
  have hb := fbase hF.1.1
  have pe := pTwo_eq (x := x) (w := 5) (c1 := cCl f) (c2 := fun e => cLt e) (P := pNx x P)
  have h2 : ∀ c' : CS, FC IR IA [] c c' → c'.1 17 = c.1 17 → PH x c' ops (pL (pTwo x 5 (cCl f) (fun e => cLt e)) (pNx x P)) → N none (hC w c') := h2
  rw [pe] at h2
  obtain ⟨R1, hR1⟩ : ∃ R1, R1 = pL (pNum x (cCl f)) (pNx x P) := ⟨_, rfl⟩
  rw [← hR1] at h2 pe
  have n2 : ∀ (c2 : CS) (b : Int), FC F6c [] [] c c2 → PXc x c2 (pSt (pL (pSkip x 46) (pSt R1))) → (b = 1 ∧ c2.1 20 < ((pVl 0 R1 : Nat) : Int)) ∨ (b = 0 ∧ ((pVl 0 R1 : Nat) : Int) ≤ c2.1 20) → K 46 [some (mR 25), some (mI (pVl 0 R1 : Nat))] [mI b, mR 25, mI (pVl 0 R1 : Nat), mI 5, mR 26] (hC w c2) 0 0 := by
    intro c2 b hF2 hP2 hb2
    refine hK [] _ _ _ _ _ _ ?_
    refine ⟨w, c2, x, _, cLt (pVl 0 R1), b, rfl, rfl, TPc_fr hT hF2 rfl rfl, hP2, hb_lt hP2 hb2, fun c3 hF3 hP3 => ?_⟩
    have hF13 := FC_6 hF2 hF3
    refine ⟨w, c3, (5, ((pVl 0 R1 : Nat) : Int), ((pVl 0 (pL (pNum x (cLt (pVl 0 R1))) (pSt (pL (pSkip x 46) (pSt R1)))) : Nat) : Int), 0), rfl, rfl, by rw [hF13.1 21 rfl]; exact hQ.1, fun c4 hF4 hl ha => ?_⟩
    refine h2 c4 (FC_tr (FC_mono hF13 rfl rfl rfl) hF4 rfl rfl rfl) ((hF4.1 17 rfl).trans (hF13.1 17 rfl)) ?_
    refine PH_fin (o := fun v => (5, ((pVl 0 R1 : Nat) : Int), (v : Int), 0)) hP3 hF4 hl ha (fun u hu => ?_)
    have hm := mon_inr (F := pTwo x 5 (cCl f) (fun e => cLt e)) (v := (u.1, [(5, ((pVl 0 R1 : Nat) : Int), (u.2 : Int), 0)])) hT.2.1 hP hQ (fun q v h1 h3 => ⟨(mon_two h1 h3).1, (mon_two h1 h3).2.1⟩) (by rw [pe, hu]; rfl)
    exact ⟨PGc_fr hm.1 hF13 rfl rfl, hm.2⟩
  refine ⟨rfl, hK [46] _ _ _ _ _ _ ?_⟩
  obtain ⟨a1, a2⟩ := pAtq_ok hP
  refine ⟨w, c, x, pAtq x P, rfl, rfl, hT, a1, a2, fun c1 hF1 hk => ?_⟩
  have hP1 := PXc_adv hP hF1 hk
  have hF1 : FC F6c [] [] c c1 := FC_mono hF1 rfl rfl rfl
  refine ⟨w, c1, f, c1.1 20, rfl, rfl, (CF_fr hF hF1 rfl rfl).1, ?_⟩
  refine ⟨w, c1, x, pNx x P, cCl f, bi (okK1 f (c1.1 20)), rfl, rfl, TPc_fr hT hF1 rfl rfl, hP1, hb_cl hP1, ?_⟩
  rw [← hR1]
  intro c2 hF2 hP2
  have hF12 := FC_6 hF1 hF2
  refine ⟨w, c2, x, pSt R1, 46, rfl, rfl, TPc_fr hT hF12 rfl rfl, hP2, by omega, fun c3 hF3 hP3 => ?_⟩
  have hF13 := FC_6 hF12 hF3
  refine And.intro (fun q => ?_) (fun q => ?_)
  · exact n2 c3 0 hF13 hP3 (Or.inr ⟨rfl, q⟩)
  · exact n2 c3 1 hF13 hP3 (Or.inl ⟨rfl, q⟩)
theorem m_X3_readPeriod (l : Launch) : mm_Met l yX3_readPeriod cX3_readPeriod 2 none 3 0 0 T_X3_readPeriod := mm_met (E := e_X3_readPeriod) (cd := kX3_readPeriod) s_X3_readPeriod (by decide) kX3_readPeriod_ok (by decide +kernel) (by decide +kernel) (Or.inl ⟨rfl, rfl⟩) rfl (mm_eok_X3 _) (mm_calls_cons (mm_cbv wi_X3_advance (tb3 (i := 180) rfl rfl) (m_X3_advance l) (by decide) (by decide) rfl) (mm_calls_cons (mm_cbv wi_X1_hasClasses (tb4 (i := 3) rfl rfl) (m_X1_hasClasses l) (by decide) (by decide) rfl) (mm_calls_cons (mm_cbv wi_X3_readNumber (tb3 (i := 207) rfl rfl) (m_X3_readNumber l) (by decide) (by decide) rfl) (mm_calls_cons (mm_cbv wi_X3_skip (tb3 (i := 227) rfl rfl) (m_X3_skip l) (by decide) (by decide) rfl) (mm_calls_cons (mm_cbv wi_X2_add (tb3 (i := 215) rfl rfl) (m_X2_add l) (by decide) (by decide) rfl) (mm_calls_nil))))))
abbrev T_X3_readJacobi : Tr := TB pJac
abbrev e_X3_readJacobi : NE := (ftX3, [(53, (1, 0, 0, false, (0, 3), T_X3_advance)), (82, (2, 0, 0, false, (0, 3), T_X3_readNumber)), (120, (2, 0, 0, false, (0, 3), T_X3_skip)), (69, (5, 0, 0, false, (0, 2), T_X2_add))], ltX3, [], [], false, 0, (0, 0), [], [], [], true)
set_option maxHeartbeats 8000000 in
theorem s_X3_readJacobi : mm_Spec e_X3_readJacobi kX3_readJacobi 3 T_X3_readJacobi := by
  rintro N X K av h hK ⟨w, c, f, x, P, ops, rfl, rfl, ⟨hF, hG⟩, hT, hP, hQ, h2⟩
  have hb := fbase hF.1.1
  have hq : ∀ c1 : CS, FC F6c [] [] c c1 → c1.1 3 = (fQ f : Int) := fun c1 h => (h.1 3 rfl).trans hF.1.2.2.2
  have pe := pThr_eq (x := x) (c1 := cLt (fQ f - 1)) (c2 := cLt (fQ f - 1)) (c3 := cLt (fQ f)) (P := pNx x P)
  have h2 : ∀ c' : CS, FC IR IA [] c c' → c'.1 17 = c.1 17 → PH x c' ops (pL (pThr x (cLt (fQ f - 1)) (cLt (fQ f - 1)) (cLt (fQ f))) (pNx x P)) → N none (hC w c') := h2
  rw [pe] at h2
  obtain ⟨R1, hR1⟩ : ∃ R1, R1 = pL (pNum x (cLt (fQ f - 1))) (pNx x P) := ⟨_, rfl⟩
  rw [← hR1] at h2 pe
  obtain ⟨R2, hR2⟩ : ∃ R2, R2 = pL (pNum x (cLt (fQ f - 1))) (pSt (pL (pSkip x 46) (pSt R1))) := ⟨_, rfl⟩
  rw [← hR2] at h2 pe
  have n3 : ∀ (c2 : CS) (b : Int), FC F6c [] [] c c2 → PXc x c2 (pSt (pL (pSkip x 46) (pSt R2))) → (b = 1 ∧ c2.1 20 < ((fQ f : Nat) : Int)) ∨ (b = 0 ∧ ((fQ f : Nat) : Int) ≤ c2.1 20) → K 95 [some (mR 25), some (mI (pVl 0 R1 : Nat)), some (mI (pVl 0 R2 : Nat))] [mI b, mR 25, mI (pVl 0 R2 : Nat), mI (pVl 0 R1 : Nat), mI 3, mR 26] (hC w c2) 0 0 := by
    intro c2 b hF2 hP2 hb2
    refine hK [] _ _ _ _ _ _ ?_
    refine ⟨w, c2, x, _, cLt (fQ f), b, rfl, rfl, TPc_fr hT hF2 rfl rfl, hP2, hb_lt hP2 hb2, fun c3 hF3 hP3 => ?_⟩
    have hF13 := FC_6 hF2 hF3
    refine ⟨w, c3, (3, ((pVl 0 R1 : Nat) : Int), ((pVl 0 R2 : Nat) : Int), ((pVl 0 (pL (pNum x (cLt (fQ f))) (pSt (pL (pSkip x 46) (pSt R2)))) : Nat) : Int)), rfl, rfl, by rw [hF13.1 21 rfl]; exact hQ.1, fun c4 hF4 hl ha => ?_⟩
    refine h2 c4 (FC_tr (FC_mono hF13 rfl rfl rfl) hF4 rfl rfl rfl) ((hF4.1 17 rfl).trans (hF13.1 17 rfl)) ?_
    refine PH_fin (o := fun v => (3, ((pVl 0 R1 : Nat) : Int), ((pVl 0 R2 : Nat) : Int), (v : Int))) hP3 hF4 hl ha (fun u hu => ?_)
    have hm := mon_inr (F := pThr x (cLt (fQ f - 1)) (cLt (fQ f - 1)) (cLt (fQ f))) (v := (u.1, [(3, ((pVl 0 R1 : Nat) : Int), ((pVl 0 R2 : Nat) : Int), (u.2 : Int))])) hT.2.1 hP hQ (fun q v h1 h3 => mon_3 h1 h3) (by rw [pe, hu]; rfl)
    exact ⟨PGc_fr hm.1 hF13 rfl rfl, hm.2⟩
  have n2 : ∀ (c1 : CS) (b : Int), FC F6c [] [] c c1 → PXc x c1 (pSt (pL (pSkip x 46) (pSt R1))) → (b = 1 ∧ c1.1 20 < ((fQ f - 1 : Nat) : Int)) ∨ (b = 0 ∧ ((fQ f - 1 : Nat) : Int) ≤ c1.1 20) → K 58 [some (mR 25), some (mI (pVl 0 R1 : Nat)), none] [mI b, mR 25] (hC w c1) 0 0 := by
    intro c1 b hF1 hP1 hb1
    refine hK [95] _ _ _ _ _ _ ?_
    refine ⟨w, c1, x, _, cLt (fQ f - 1), b, rfl, rfl, TPc_fr hT hF1 rfl rfl, hP1, hb_lt hP1 hb1, ?_⟩
    rw [← hR2]
    intro c2 hF2 hP2
    have hF12 := FC_6 hF1 hF2
    refine ⟨w, c2, x, pSt R2, 46, rfl, rfl, TPc_fr hT hF12 rfl rfl, hP2, by omega, fun c3 hF3 hP3 => ?_⟩
    have hF13 := FC_6 hF12 hF3
    conv => whnf
    rw [hq c3 hF13]
    refine And.intro (fun q => ?_) (fun q => ?_)
    · exact n3 c3 0 hF13 hP3 (Or.inr ⟨rfl, q⟩)
    · exact n3 c3 1 hF13 hP3 (Or.inl ⟨rfl, q⟩)
  have n1 : ∀ (c1 : CS) (b : Int), FC F6c [] [] c c1 → PXc x c1 (pNx x P) → (b = 1 ∧ c1.1 20 < ((fQ f - 1 : Nat) : Int)) ∨ (b = 0 ∧ ((fQ f - 1 : Nat) : Int) ≤ c1.1 20) → K 26 [some (mR 25), none, none] [mI b, mR 25] (hC w c1) 0 0 := by
    intro c1 b hF1 hP1 hb1
    refine hK [58] _ _ _ _ _ _ ?_
    refine ⟨w, c1, x, pNx x P, cLt (fQ f - 1), b, rfl, rfl, TPc_fr hT hF1 rfl rfl, hP1, hb_lt hP1 hb1, ?_⟩
    rw [← hR1]
    intro c2 hF2 hP2
    have hF12 := FC_6 hF1 hF2
    refine ⟨w, c2, x, pSt R1, 46, rfl, rfl, TPc_fr hT hF12 rfl rfl, hP2, by omega, fun c3 hF3 hP3 => ?_⟩
    have hF13 := FC_6 hF12 hF3
    conv => whnf
    rw [hq c3 hF13]
    refine And.intro (rng_of (by omega) (by omega)) ?_
    refine And.intro (fun q => ?_) (fun q => ?_)
    · exact n2 c3 0 hF13 hP3 (Or.inr ⟨rfl, by omega⟩)
    · exact n2 c3 1 hF13 hP3 (Or.inl ⟨rfl, by omega⟩)
  refine ⟨rfl, hK [26] _ _ _ _ _ _ ?_⟩
  obtain ⟨a1, a2⟩ := pAtq_ok hP
  refine ⟨w, c, x, pAtq x P, rfl, rfl, hT, a1, a2, fun c1 hF1 hk => ?_⟩
  have hP1 := PXc_adv hP hF1 hk
  have hF1 : FC F6c [] [] c c1 := FC_mono hF1 rfl rfl rfl
  conv => whnf
  rw [hq c1 hF1]
  refine And.intro (rng_of (by omega) (by omega)) ?_
  refine And.intro (fun q => ?_) (fun q => ?_)
  · exact n1 c1 0 hF1 hP1 (Or.inr ⟨rfl, by omega⟩)
  · exact n1 c1 1 hF1 hP1 (Or.inl ⟨rfl, by omega⟩)
theorem m_X3_readJacobi (l : Launch) : mm_Met l yX3_readJacobi cX3_readJacobi 3 none 3 0 0 T_X3_readJacobi := mm_met (E := e_X3_readJacobi) (cd := kX3_readJacobi) s_X3_readJacobi (by decide) kX3_readJacobi_ok (by decide +kernel) (by decide +kernel) (Or.inl ⟨rfl, rfl⟩) rfl (mm_eok_X3 _) (mm_calls_cons (mm_cbv wi_X3_advance (tb3 (i := 180) rfl rfl) (m_X3_advance l) (by decide) (by decide) rfl) (mm_calls_cons (mm_cbv wi_X3_readNumber (tb3 (i := 207) rfl rfl) (m_X3_readNumber l) (by decide) (by decide) rfl) (mm_calls_cons (mm_cbv wi_X3_skip (tb3 (i := 227) rfl rfl) (m_X3_skip l) (by decide) (by decide) rfl) (mm_calls_cons (mm_cbv wi_X2_add (tb3 (i := 215) rfl rfl) (m_X2_add l) (by decide) (by decide) rfl) (mm_calls_nil)))))
/-! the component's reader: what is made of parts -/
def TH (O : Int → Prop) (F : Nat → TP → Nat → PR (List OP)) : Tr := fun av h N _ => ∃ (w : CW) (c : CS) (f : Nat) (x : TP) (P : PP) (ops : List OP), av = [mR 25] ∧ h = hC w c ∧ CFG f c ∧ TPc x c ∧ PXc x c P ∧ QGc c P ops ∧ (0 ≤ c.1 17 ∧ c.1 17 ≤ 10) ∧ (∀ p, P = .inr p → O (c.1 17)) ∧ ∀ c' : CS, FC IR IA [] c c' → c'.1 17 = c.1 17 → PH x c' ops (pL (F f x) P) → N none (hC w c')
theorem CFG_r {f : Nat} {c c' : CS} (h : CFG f c) (hF : FC IR IA [] c c') : CFG f c' := ⟨CF_fr h.1 hF rfl rfl, CG_fr h.2 hF rfl rfl⟩
theorem CFG_6 {f : Nat} {c c' : CS} (h : CFG f c) (hF : FC F6c [] [] c c') : CFG f c' := ⟨CF_fr h.1 hF rfl rfl, CG_fr h.2 hF rfl rfl⟩
theorem FC_r {c c1 c2 : CS} (h : FC IR IA [] c c1) (h2 : FC IR IA [] c1 c2) : FC IR IA [] c c2 := FC_tr h h2 rfl rfl rfl
theorem PH_inl {x : TP} {c : CS} {ops : List OP} {e : Nat × Nat} (h : PXc x c (.inl e)) (hl : 0 ≤ c.1 21 ∧ c.1 21 ≤ 200) : PH x c ops (.inl e) := ⟨h, hl⟩
theorem PH_st {x : TP} {c : CS} {ops : List OP} {R : PR (List OP)} (h : PH x c ops R) (hx : x.2 ≤ 200) : PXc x c (pSt R) ∧ (0 ≤ c.1 21 ∧ c.1 21 ≤ 200) := by
  cases R with
  | inl e => exact h
  | inr v =>
    have h1 := h.2.1.1
    have h3 := h.2.2
    have h4 : v.1 ≤ x.2 := h.1.2.2.2.2.2
    exact ⟨h.1, by rw [h1]; omega⟩
