/-! the component's reader: plain atoms -/
def QGc (c : CS) (P : PP) (ops : List OP) : Prop := (0 ≤ c.1 21 ∧ c.1 21 ≤ 200) ∧ ∀ p, P = .inr p → PGc c ops ∧ ops.length ≤ p
def PH (x : TP) (c : CS) (ops : List OP) : PR (List OP) → Prop
  | .inl e => PXc x c (.inl e) ∧ (0 ≤ c.1 21 ∧ c.1 21 ≤ 200)
  | .inr v => PXc x c (.inr v.1) ∧ PGc c (ops ++ v.2) ∧ (ops ++ v.2).length ≤ v.1
abbrev F6c : List Nat := [13, 14, 16, 18, 19, 20]
theorem FC_6 {c c1 c2 : CS} (h : FC F6c [] [] c c1) (h2 : FC F6c [] [] c1 c2) : FC F6c [] [] c c2 := FC_tr h h2 rfl rfl rfl
theorem hb_lt {x : TP} {c : CS} {P : PP} {M : Nat} {b : Int} (hP : PXc x c P) (h : (b = 1 ∧ c.1 20 < (M : Int)) ∨ (b = 0 ∧ (M : Int) ≤ c.1 20)) : ∀ p, P = .inr p → tTk x p = -2 → b = (ind (cLt M (tNm x p)) : Nat) := by
  intro p hp _
  subst hp
  have e := hP.2.2.2.2.1
  rw [e] at h
  rcases h with ⟨rfl, h⟩ | ⟨rfl, h⟩
  · rw [ind_t (show cLt M (tNm x p) = true from blt_t (by omega))]
  · rw [ind_f (show cLt M (tNm x p) = false from blt_f (by omega))]
theorem PH_fin {x : TP} {c1 c2 : CS} {ops : List OP} {R : PR Nat} {o : Nat → OP} (hP1 : PXc x c1 (pSt R)) (hF : FC [21] IA [] c1 c2) (hl : 0 ≤ c2.1 21 ∧ c2.1 21 ≤ 200) (ha : ∀ ops : List OP, PGc c1 ops → ops.length < 200 → PGc c2 (ops ++ [o (pVl 0 R)])) (hG : ∀ u, R = .inr u → PGc c1 ops ∧ ops.length < u.1 ∧ u.1 ≤ 200) : PH x c2 ops (pB R (fun p v => .inr (p, [o v]))) := by
  cases R with
  | inl e => exact ⟨PXc_fr hP1 hF rfl, hl⟩
  | inr u =>
    obtain ⟨g1, g2, g3⟩ := hG u rfl
    refine ⟨PXc_fr hP1 hF rfl, ha ops g1 (by omega), ?_⟩
    simp only [List.length_append, List.length_cons, List.length_nil]
    show ops.length + 1 ≤ u.1
    omega
/-- what a plain atom's reader does: behind its letter -/
def TB (F : Nat → TP → Nat → PR (List OP)) : Tr := fun av h N _ => ∃ (w : CW) (c : CS) (f : Nat) (x : TP) (P : PP) (ops : List OP), av = [mR 25] ∧ h = hC w c ∧ CFG f c ∧ TPc x c ∧ PXc x c P ∧ QGc c P ops ∧ ∀ c' : CS, FC IR IA [] c c' → c'.1 17 = c.1 17 → PH x c' ops (pL (F f x) (pNx x P)) → N none (hC w c')
theorem mon_inr {x : TP} {c : CS} {P : PP} {ops : List OP} {F : Nat → PR (List OP)} (hx : x.2 ≤ 200) (hP : PXc x c P) (hQ : QGc c P ops) (hM : ∀ q v, q ≤ x.2 → F q = .inr v → q < v.1 ∧ v.1 ≤ x.2) {v : Nat × List OP} (h : pL F (pNx x P) = .inr v) : PGc c ops ∧ ops.length < v.1 ∧ v.1 ≤ 200 := by
  cases P with
  | inl e => cases h
  | inr p =>
    obtain ⟨q1, q2⟩ := hQ.2 p rfl
    have ht := t_le hP.2.2.2.2.2
    have hm := hM (tNx x p) v ht.2.2.1 h
    exact ⟨q1, by omega, by omega⟩
abbrev pRtc (f : Nat) (x : TP) : Nat → PR (List OP) := fun p => pB (pNum x (cLt (fN f)) p) (fun p v => .inr (p, [(1, (v : Int), 0, 0)]))
abbrev pPlc2 (_ : Nat) (x : TP) : Nat → PR (List OP) := fun p => pB (pNum x (cLt 8) p) (fun p v => .inr (p, [(6, (v : Int), 0, 0)]))
abbrev pWhc (x : TP) : Nat → PR (List OP) := fun p => pB (pNum x (cLt 10000) p) (fun p v => .inr (p, [(0, (v : Int), 0, 0)]))
abbrev pGac (f : Nat) (x : TP) : Nat → PR (List OP) := pTwo x 2 (cLt (fQ f - 1)) (fun _ => cLt (fQ f))
abbrev pKlc (f : Nat) (x : TP) : Nat → PR (List OP) := pTwo x 4 (cLt (fQ f)) (fun _ => cLt (fQ f))
abbrev pPec (f : Nat) (x : TP) : Nat → PR (List OP) := pTwo x 5 (cCl f) (fun e => cLt e)
abbrev pJac (f : Nat) (x : TP) : Nat → PR (List OP) := pThr x (cLt (fQ f - 1)) (cLt (fQ f - 1)) (cLt (fQ f))
theorem mon_1 {x : TP} {c : Nat → Bool} {o : Nat → OP} {q : Nat} {v : Nat × List OP} (hq : q ≤ x.2) (h : pB (pNum x c q) (fun p v => .inr (p, [o v])) = .inr v) : q < v.1 ∧ v.1 ≤ x.2 := by
  obtain ⟨u, h1, h⟩ := pB_inr h
  have := mon_num hq h1
  cases h
  exact this
theorem mon_3 {x : TP} {c1 c2 c3 : Nat → Bool} {q : Nat} {v : Nat × List OP} (hq : q ≤ x.2) (h : pThr x c1 c2 c3 q = .inr v) : q < v.1 ∧ v.1 ≤ x.2 := by
  unfold pThr at h
  obtain ⟨u, h1, h⟩ := pB_inr h
  obtain ⟨u2, h2, h⟩ := pB_inr h
  obtain ⟨u3, h3, h⟩ := pB_inr h
  obtain ⟨u4, h4, h⟩ := pB_inr h
  obtain ⟨u5, h5, h⟩ := pB_inr h
  have m1 := mon_num hq h1
  have m2 := mon_skip (by omega) m1.2 h2
  have m3 := mon_num m2.2 h3
  have m4 := mon_skip (by omega) m3.2 h4
  have m5 := mon_num m4.2 h5
  cases h
  exact ⟨by show q < u5.1; omega, m5.2⟩

abbrev T_X3_readRoot : Tr := TB pRtc
abbrev e_X3_readRoot : NE := (ftX3, [(53, (1, 0, 0, false, (0, 3), T_X3_advance)), (82, (2, 0, 0, false, (0, 3), T_X3_readNumber)), (69, (5, 0, 0, false, (0, 2), T_X2_add))], ltX3, [], [], false, 0, (0, 0), [], [], [], true)
theorem s_X3_readRoot : mm_Spec e_X3_readRoot kX3_readRoot 1 T_X3_readRoot := by
  rintro N X K av h hK ⟨w, c, f, x, P, ops, rfl, rfl, ⟨hF, hG⟩, hT, hP, hQ, h2⟩
  have hb := fbase hF.1.1
  rw [pL_pB] at h2
  refine ⟨rfl, hK [29] _ _ _ _ _ _ ?_⟩
  obtain ⟨a1, a2⟩ := pAtq_ok hP
  refine ⟨w, c, x, pAtq x P, rfl, rfl, hT, a1, a2, fun c1 hF1 hk => ?_⟩
  have hP1 := PXc_adv hP hF1 hk
  have nb : ∀ b : Int, (b = 1 ∧ c1.1 20 < ((fN f : Nat) : Int)) ∨ (b = 0 ∧ ((fN f : Nat) : Int) ≤ c1.1 20) → K 29 [some (mR 25)] [mI b, mR 25, mI 1, mR 26] (hC w c1) 0 0 := by
    intro b hb2
    refine hK [] _ _ _ _ _ _ ?_
    refine ⟨w, c1, x, pNx x P, cLt (fN f), b, rfl, rfl, TPc_fr hT hF1 rfl rfl, hP1, hb_lt hP1 hb2, fun c2 hF2 hP2 => ?_⟩
    have hF12 : FC F6c [] [] c c2 := FC_tr (FC_mono hF1 rfl rfl rfl) hF2 rfl rfl rfl
    refine ⟨w, c2, (1, ((pVl 0 (pL (pNum x (cLt (fN f))) (pNx x P)) : Nat) : Int), 0, 0), rfl, rfl, by rw [hF12.1 21 rfl]; exact hQ.1, fun c3 hF3 hl ha => ?_⟩
    refine h2 c3 (FC_tr (FC_mono hF12 rfl rfl rfl) hF3 rfl rfl rfl) ((hF3.1 17 rfl).trans (hF12.1 17 rfl)) ?_
    refine PH_fin (o := fun v => (1, (v : Int), 0, 0)) hP2 hF3 hl ha (fun u hu => ?_)
    have hm := mon_inr (F := pRtc f x) (v := (u.1, [(1, (u.2 : Int), 0, 0)])) hT.2.1 hP hQ (fun q v h1 h3 => mon_1 (o := fun v => (1, (v : Int), 0, 0)) h1 h3) (by rw [pL_pB, hu]; rfl)
    exact ⟨PGc_fr hm.1 hF12 rfl rfl, hm.2⟩
  conv => whnf
  rw [show c1.1 6 = (fN f : Int) from (hF1.1 6 rfl).trans hG.2.1]
  refine And.intro (fun q => ?_) (fun q => ?_)
  · exact nb 0 (Or.inr ⟨rfl, q⟩)
  · exact nb 1 (Or.inl ⟨rfl, q⟩)
theorem m_X3_readRoot (l : Launch) : mm_Met l yX3_readRoot cX3_readRoot 1 none 3 0 0 T_X3_readRoot := mm_met (E := e_X3_readRoot) (cd := kX3_readRoot) s_X3_readRoot (by decide) kX3_readRoot_ok (by decide +kernel) (by decide +kernel) (Or.inl ⟨rfl, rfl⟩) rfl (mm_eok_X3 _) (mm_calls_cons (mm_cbv wi_X3_advance (tb3 (i := 180) rfl rfl) (m_X3_advance l) (by decide) (by decide) rfl) (mm_calls_cons (mm_cbv wi_X3_readNumber (tb3 (i := 207) rfl rfl) (m_X3_readNumber l) (by decide) (by decide) rfl) (mm_calls_cons (mm_cbv wi_X2_add (tb3 (i := 215) rfl rfl) (m_X2_add l) (by decide) (by decide) rfl) (mm_calls_nil))))

abbrev T_X3_readPlace : Tr := TB pPlc2
abbrev e_X3_readPlace : NE := (ftX3, [(53, (1, 0, 0, false, (0, 3), T_X3_advance)), (82, (2, 0, 0, false, (0, 3), T_X3_readNumber)), (69, (5, 0, 0, false, (0, 2), T_X2_add))], ltX3, [], [], false, 0, (0, 0), [], [], [], true)
theorem s_X3_readPlace : mm_Spec e_X3_readPlace kX3_readPlace 1 T_X3_readPlace := by
  rintro N X K av h hK ⟨w, c, f, x, P, ops, rfl, rfl, ⟨hF, hG⟩, hT, hP, hQ, h2⟩
  have hb := fbase hF.1.1
  rw [pL_pB] at h2
  refine ⟨rfl, hK [25] _ _ _ _ _ _ ?_⟩
  obtain ⟨a1, a2⟩ := pAtq_ok hP
  refine ⟨w, c, x, pAtq x P, rfl, rfl, hT, a1, a2, fun c1 hF1 hk => ?_⟩
  have hP1 := PXc_adv hP hF1 hk
  have nb : ∀ b : Int, (b = 1 ∧ c1.1 20 < ((8 : Nat) : Int)) ∨ (b = 0 ∧ ((8 : Nat) : Int) ≤ c1.1 20) → K 25 [some (mR 25)] [mI b, mR 25, mI 6, mR 26] (hC w c1) 0 0 := by
    intro b hb2
    refine hK [] _ _ _ _ _ _ ?_
    refine ⟨w, c1, x, pNx x P, cLt (8), b, rfl, rfl, TPc_fr hT hF1 rfl rfl, hP1, hb_lt hP1 hb2, fun c2 hF2 hP2 => ?_⟩
    have hF12 : FC F6c [] [] c c2 := FC_tr (FC_mono hF1 rfl rfl rfl) hF2 rfl rfl rfl
    refine ⟨w, c2, (6, ((pVl 0 (pL (pNum x (cLt (8))) (pNx x P)) : Nat) : Int), 0, 0), rfl, rfl, by rw [hF12.1 21 rfl]; exact hQ.1, fun c3 hF3 hl ha => ?_⟩
    refine h2 c3 (FC_tr (FC_mono hF12 rfl rfl rfl) hF3 rfl rfl rfl) ((hF3.1 17 rfl).trans (hF12.1 17 rfl)) ?_
    refine PH_fin (o := fun v => (6, (v : Int), 0, 0)) hP2 hF3 hl ha (fun u hu => ?_)
    have hm := mon_inr (F := pPlc2 f x) (v := (u.1, [(6, (u.2 : Int), 0, 0)])) hT.2.1 hP hQ (fun q v h1 h3 => mon_1 (o := fun v => (6, (v : Int), 0, 0)) h1 h3) (by rw [pL_pB, hu]; rfl)
    exact ⟨PGc_fr hm.1 hF12 rfl rfl, hm.2⟩

  refine And.intro (fun q => ?_) (fun q => ?_)
  · exact nb 0 (Or.inr ⟨rfl, q⟩)
  · exact nb 1 (Or.inl ⟨rfl, q⟩)
theorem m_X3_readPlace (l : Launch) : mm_Met l yX3_readPlace cX3_readPlace 1 none 3 0 0 T_X3_readPlace := mm_met (E := e_X3_readPlace) (cd := kX3_readPlace) s_X3_readPlace (by decide) kX3_readPlace_ok (by decide +kernel) (by decide +kernel) (Or.inl ⟨rfl, rfl⟩) rfl (mm_eok_X3 _) (mm_calls_cons (mm_cbv wi_X3_advance (tb3 (i := 180) rfl rfl) (m_X3_advance l) (by decide) (by decide) rfl) (mm_calls_cons (mm_cbv wi_X3_readNumber (tb3 (i := 207) rfl rfl) (m_X3_readNumber l) (by decide) (by decide) rfl) (mm_calls_cons (mm_cbv wi_X2_add (tb3 (i := 215) rfl rfl) (m_X2_add l) (by decide) (by decide) rfl) (mm_calls_nil))))

def T_X3_readWhole : Tr := fun av h N _ => ∃ (w : CW) (c : CS) (x : TP) (p : Nat) (ops : List OP), av = [mR 25] ∧ h = hC w c ∧ TPc x c ∧ PXc x c (.inr p) ∧ QGc c (.inr p) ops ∧ ∀ c' : CS, FC IR IA [] c c' → c'.1 17 = c.1 17 → PH x c' ops (pWhc x p) → N none (hC w c')
abbrev e_X3_readWhole : NE := (ftX3, [(82, (2, 0, 0, false, (0, 3), T_X3_readNumber)), (69, (5, 0, 0, false, (0, 2), T_X2_add))], ltX3, [], [], false, 0, (0, 0), [], [], [], true)
theorem s_X3_readWhole : mm_Spec e_X3_readWhole kX3_readWhole 1 T_X3_readWhole := by
  rintro N X K av h hK ⟨w, c, x, p, ops, rfl, rfl, hT, hP, hQ, h2⟩
  have hx200 := hT.2.1
  have nb : ∀ b : Int, (b = 1 ∧ c.1 20 < ((10000 : Nat) : Int)) ∨ (b = 0 ∧ ((10000 : Nat) : Int) ≤ c.1 20) → K 21 [some (mR 25)] [mI b, mR 25, mI 0, mR 26] (hC w c) 0 0 := by
    intro b hb2
    refine hK [] _ _ _ _ _ _ ?_
    refine ⟨w, c, x, .inr p, cLt 10000, b, rfl, rfl, hT, hP, hb_lt hP hb2, fun c2 hF2 hP2 => ?_⟩
    refine ⟨w, c2, (0, ((pVl 0 (pL (pNum x (cLt 10000)) (.inr p)) : Nat) : Int), 0, 0), rfl, rfl, by rw [hF2.1 21 rfl]; exact hQ.1, fun c3 hF3 hl ha => ?_⟩
    refine h2 c3 (FC_tr (FC_mono hF2 rfl rfl rfl) hF3 rfl rfl rfl) ((hF3.1 17 rfl).trans (hF2.1 17 rfl)) ?_
    refine PH_fin (R := pNum x (cLt 10000) p) (o := fun v => (0, (v : Int), 0, 0)) hP2 hF3 hl ha (fun u hu => ?_)
    obtain ⟨q1, q2⟩ := hQ.2 p rfl
    have hm := mon_num hP.2.2.2.2.2 hu
    exact ⟨PGc_fr q1 hF2 rfl rfl, by omega, by omega⟩
  refine ⟨rfl, hK [21] _ _ _ _ _ _ ?_⟩
  refine And.intro (fun q => ?_) (fun q => ?_)
  · exact nb 0 (Or.inr ⟨rfl, q⟩)
  · exact nb 1 (Or.inl ⟨rfl, q⟩)
theorem m_X3_readWhole (l : Launch) : mm_Met l yX3_readWhole cX3_readWhole 1 none 3 0 0 T_X3_readWhole := mm_met (E := e_X3_readWhole) (cd := kX3_readWhole) s_X3_readWhole (by decide) kX3_readWhole_ok (by decide +kernel) (by decide +kernel) (Or.inl ⟨rfl, rfl⟩) rfl (mm_eok_X3 _) (mm_calls_cons (mm_cbv wi_X3_readNumber (tb3 (i := 207) rfl rfl) (m_X3_readNumber l) (by decide) (by decide) rfl) (mm_calls_cons (mm_cbv wi_X2_add (tb3 (i := 215) rfl rfl) (m_X2_add l) (by decide) (by decide) rfl) (mm_calls_nil)))

abbrev T_X3_readGauss : Tr := TB pGac
abbrev e_X3_readGauss : NE := (ftX3, [(53, (1, 0, 0, false, (0, 3), T_X3_advance)), (82, (2, 0, 0, false, (0, 3), T_X3_readNumber)), (120, (2, 0, 0, false, (0, 3), T_X3_skip)), (69, (5, 0, 0, false, (0, 2), T_X2_add))], ltX3, [], [], false, 0, (0, 0), [], [], [], true)
set_option maxHeartbeats 4000000 in
theorem s_X3_readGauss : mm_Spec e_X3_readGauss kX3_readGauss 2 T_X3_readGauss := by
  rintro N X K av h hK ⟨w, c, f, x, P, ops, rfl, rfl, ⟨hF, hG⟩, hT, hP, hQ, h2⟩
  have hb := fbase hF.1.1
  have hq : ∀ c1 : CS, FC F6c [] [] c c1 → c1.1 3 = (fQ f : Int) := fun c1 h => (h.1 3 rfl).trans hF.1.2.2.2
  have pe := pTwo_eq (x := x) (w := 2) (c1 := cLt (fQ f - 1)) (c2 := fun _ => cLt (fQ f)) (P := pNx x P)
  have h2 : ∀ c' : CS, FC IR IA [] c c' → c'.1 17 = c.1 17 → PH x c' ops (pL (pTwo x 2 (cLt (fQ f - 1)) (fun _ => cLt (fQ f))) (pNx x P)) → N none (hC w c') := h2
  rw [pe] at h2
  obtain ⟨R1, hR1⟩ : ∃ R1, R1 = pL (pNum x (cLt (fQ f - 1))) (pNx x P) := ⟨_, rfl⟩
  rw [← hR1] at h2 pe
  -- the second number
  have n2 : ∀ (c2 : CS) (b : Int), FC F6c [] [] c c2 → PXc x c2 (pSt (pL (pSkip x 46) (pSt R1))) → (b = 1 ∧ c2.1 20 < ((fQ f : Nat) : Int)) ∨ (b = 0 ∧ ((fQ f : Nat) : Int) ≤ c2.1 20) → K 62 [some (mR 25), some (mI (pVl 0 R1 : Nat))] [mI b, mR 25, mI (pVl 0 R1 : Nat), mI 2, mR 26] (hC w c2) 0 0 := by
    intro c2 b hF2 hP2 hb2
    refine hK [] _ _ _ _ _ _ ?_
    refine ⟨w, c2, x, _, cLt (fQ f), b, rfl, rfl, TPc_fr hT hF2 rfl rfl, hP2, hb_lt hP2 hb2, fun c3 hF3 hP3 => ?_⟩
    have hF13 := FC_6 hF2 hF3
    refine ⟨w, c3, (2, ((pVl 0 R1 : Nat) : Int), ((pVl 0 (pL (pNum x (cLt (fQ f))) (pSt (pL (pSkip x 46) (pSt R1)))) : Nat) : Int), 0), rfl, rfl, by rw [hF13.1 21 rfl]; exact hQ.1, fun c4 hF4 hl ha => ?_⟩
    refine h2 c4 (FC_tr (FC_mono hF13 rfl rfl rfl) hF4 rfl rfl rfl) ((hF4.1 17 rfl).trans (hF13.1 17 rfl)) ?_
    refine PH_fin (o := fun v => (2, ((pVl 0 R1 : Nat) : Int), (v : Int), 0)) hP3 hF4 hl ha (fun u hu => ?_)
    have hm := mon_inr (F := pTwo x 2 (cLt (fQ f - 1)) (fun _ => cLt (fQ f))) (v := (u.1, [(2, ((pVl 0 R1 : Nat) : Int), (u.2 : Int), 0)])) hT.2.1 hP hQ (fun q v h1 h3 => ⟨(mon_two h1 h3).1, (mon_two h1 h3).2.1⟩) (by rw [pe, hu]; rfl)
    exact ⟨PGc_fr hm.1 hF13 rfl rfl, hm.2⟩
  -- the first number
  have n1 : ∀ (c1 : CS) (b : Int), FC F6c [] [] c c1 → PXc x c1 (pNx x P) → (b = 1 ∧ c1.1 20 < ((fQ f - 1 : Nat) : Int)) ∨ (b = 0 ∧ ((fQ f - 1 : Nat) : Int) ≤ c1.1 20) → K 26 [some (mR 25), none] [mI b, mR 25] (hC w c1) 0 0 := by
    intro c1 b hF1 hP1 hb1
    refine hK [62] _ _ _ _ _ _ ?_
    refine ⟨w, c1, x, pNx x P, cLt (fQ f - 1), b, rfl, rfl, TPc_fr hT hF1 rfl rfl, hP1, hb_lt hP1 hb1, ?_⟩
    rw [← hR1]
    intro c2 hF2 hP2
    have hF12 := FC_6 hF1 hF2
    refine ⟨w, c2, x, pSt R1, 46, rfl, rfl, TPc_fr hT hF12 rfl rfl, hP2, by omega, fun c3 hF3 hP3 => ?_⟩
    have hF13 := FC_6 hF12 hF3
    conv => whnf
    rw [hq c3 hF13]
    refine And.intro (fun q => ?_) (fun q => ?_)
    · exact n2 c3 0 hF13 hP3 (Or.inr ⟨rfl, q⟩)
    · exact n2 c3 1 hF13 hP3 (Or.inl ⟨rfl, q⟩)
  refine ⟨rfl, hK [26] _ _ _ _ _ _ ?_⟩
  obtain ⟨a1, a2⟩ := pAtq_ok hP
  refine ⟨w, c, x, pAtq x P, rfl, rfl, hT, a1, a2, fun c1 hF1 hk => ?_⟩
  have hP1 := PXc_adv hP hF1 hk
  have hF1 : FC F6c [] [] c c1 := FC_mono hF1 rfl rfl rfl
  conv => whnf
  rw [hq c1 hF1]
  refine And.intro (rng_of (by omega) (by omega)) ?_
  refine And.intro (fun q => ?_) (fun q => ?_)
  · exact n1 c1 0 hF1 hP1 (Or.inr ⟨rfl, by omega⟩)
  · exact n1 c1 1 hF1 hP1 (Or.inl ⟨rfl, by omega⟩)
theorem m_X3_readGauss (l : Launch) : mm_Met l yX3_readGauss cX3_readGauss 2 none 3 0 0 T_X3_readGauss := mm_met (E := e_X3_readGauss) (cd := kX3_readGauss) s_X3_readGauss (by decide) kX3_readGauss_ok (by decide +kernel) (by decide +kernel) (Or.inl ⟨rfl, rfl⟩) rfl (mm_eok_X3 _) (mm_calls_cons (mm_cbv wi_X3_advance (tb3 (i := 180) rfl rfl) (m_X3_advance l) (by decide) (by decide) rfl) (mm_calls_cons (mm_cbv wi_X3_readNumber (tb3 (i := 207) rfl rfl) (m_X3_readNumber l) (by decide) (by decide) rfl) (mm_calls_cons (mm_cbv wi_X3_skip (tb3 (i := 227) rfl rfl) (m_X3_skip l) (by decide) (by decide) rfl) (mm_calls_cons (mm_cbv wi_X2_add (tb3 (i := 215) rfl rfl) (m_X2_add l) (by decide) (by decide) rfl) (mm_calls_nil)))))

abbrev T_X3_readKloosterman : Tr := TB pKlc
abbrev e_X3_readKloosterman : NE := (ftX3, [(53, (1, 0, 0, false, (0, 3), T_X3_advance)), (82, (2, 0, 0, false, (0, 3), T_X3_readNumber)), (120, (2, 0, 0, false, (0, 3), T_X3_skip)), (69, (5, 0, 0, false, (0, 2), T_X2_add))], ltX3, [], [], false, 0, (0, 0), [], [], [], true)
set_option maxHeartbeats 4000000 in
theorem s_X3_readKloosterman : mm_Spec e_X3_readKloosterman kX3_readKloosterman 2 T_X3_readKloosterman := by
  rintro N X K av h hK ⟨w, c, f, x, P, ops, rfl, rfl, ⟨hF, hG⟩, hT, hP, hQ, h2⟩
  have hb := fbase hF.1.1
  have hq : ∀ c1 : CS, FC F6c [] [] c c1 → c1.1 3 = (fQ f : Int) := fun c1 h => (h.1 3 rfl).trans hF.1.2.2.2
  have pe := pTwo_eq (x := x) (w := 4) (c1 := cLt (fQ f)) (c2 := fun _ => cLt (fQ f)) (P := pNx x P)
  have h2 : ∀ c' : CS, FC IR IA [] c c' → c'.1 17 = c.1 17 → PH x c' ops (pL (pTwo x 4 (cLt (fQ f)) (fun _ => cLt (fQ f))) (pNx x P)) → N none (hC w c') := h2
  rw [pe] at h2
  obtain ⟨R1, hR1⟩ : ∃ R1, R1 = pL (pNum x (cLt (fQ f))) (pNx x P) := ⟨_, rfl⟩
  rw [← hR1] at h2 pe
  -- the second number
  have n2 : ∀ (c2 : CS) (b : Int), FC F6c [] [] c c2 → PXc x c2 (pSt (pL (pSkip x 46) (pSt R1))) → (b = 1 ∧ c2.1 20 < ((fQ f : Nat) : Int)) ∨ (b = 0 ∧ ((fQ f : Nat) : Int) ≤ c2.1 20) → K 60 [some (mR 25), some (mI (pVl 0 R1 : Nat))] [mI b, mR 25, mI (pVl 0 R1 : Nat), mI 4, mR 26] (hC w c2) 0 0 := by
    intro c2 b hF2 hP2 hb2
    refine hK [] _ _ _ _ _ _ ?_
    refine ⟨w, c2, x, _, cLt (fQ f), b, rfl, rfl, TPc_fr hT hF2 rfl rfl, hP2, hb_lt hP2 hb2, fun c3 hF3 hP3 => ?_⟩
    have hF13 := FC_6 hF2 hF3
    refine ⟨w, c3, (4, ((pVl 0 R1 : Nat) : Int), ((pVl 0 (pL (pNum x (cLt (fQ f))) (pSt (pL (pSkip x 46) (pSt R1)))) : Nat) : Int), 0), rfl, rfl, by rw [hF13.1 21 rfl]; exact hQ.1, fun c4 hF4 hl ha => ?_⟩
    refine h2 c4 (FC_tr (FC_mono hF13 rfl rfl rfl) hF4 rfl rfl rfl) ((hF4.1 17 rfl).trans (hF13.1 17 rfl)) ?_
    refine PH_fin (o := fun v => (4, ((pVl 0 R1 : Nat) : Int), (v : Int), 0)) hP3 hF4 hl ha (fun u hu => ?_)
    have hm := mon_inr (F := pTwo x 4 (cLt (fQ f)) (fun _ => cLt (fQ f))) (v := (u.1, [(4, ((pVl 0 R1 : Nat) : Int), (u.2 : Int), 0)])) hT.2.1 hP hQ (fun q v h1 h3 => ⟨(mon_two h1 h3).1, (mon_two h1 h3).2.1⟩) (by rw [pe, hu]; rfl)
    exact ⟨PGc_fr hm.1 hF13 rfl rfl, hm.2⟩
  -- the first number
  have n1 : ∀ (c1 : CS) (b : Int), FC F6c [] [] c c1 → PXc x c1 (pNx x P) → (b = 1 ∧ c1.1 20 < ((fQ f : Nat) : Int)) ∨ (b = 0 ∧ ((fQ f : Nat) : Int) ≤ c1.1 20) → K 24 [some (mR 25), none] [mI b, mR 25] (hC w c1) 0 0 := by
    intro c1 b hF1 hP1 hb1
    refine hK [60] _ _ _ _ _ _ ?_
    refine ⟨w, c1, x, pNx x P, cLt (fQ f), b, rfl, rfl, TPc_fr hT hF1 rfl rfl, hP1, hb_lt hP1 hb1, ?_⟩
    rw [← hR1]
    intro c2 hF2 hP2
    have hF12 := FC_6 hF1 hF2
    refine ⟨w, c2, x, pSt R1, 46, rfl, rfl, TPc_fr hT hF12 rfl rfl, hP2, by omega, fun c3 hF3 hP3 => ?_⟩
    have hF13 := FC_6 hF12 hF3
    conv => whnf
    rw [hq c3 hF13]
    refine And.intro (fun q => ?_) (fun q => ?_)
    · exact n2 c3 0 hF13 hP3 (Or.inr ⟨rfl, q⟩)
    · exact n2 c3 1 hF13 hP3 (Or.inl ⟨rfl, q⟩)
  refine ⟨rfl, hK [24] _ _ _ _ _ _ ?_⟩
  obtain ⟨a1, a2⟩ := pAtq_ok hP
  refine ⟨w, c, x, pAtq x P, rfl, rfl, hT, a1, a2, fun c1 hF1 hk => ?_⟩
  have hP1 := PXc_adv hP hF1 hk
  have hF1 : FC F6c [] [] c c1 := FC_mono hF1 rfl rfl rfl
  conv => whnf
  rw [hq c1 hF1]

  refine And.intro (fun q => ?_) (fun q => ?_)
  · exact n1 c1 0 hF1 hP1 (Or.inr ⟨rfl, by omega⟩)
  · exact n1 c1 1 hF1 hP1 (Or.inl ⟨rfl, by omega⟩)
theorem m_X3_readKloosterman (l : Launch) : mm_Met l yX3_readKloosterman cX3_readKloosterman 2 none 3 0 0 T_X3_readKloosterman := mm_met (E := e_X3_readKloosterman) (cd := kX3_readKloosterman) s_X3_readKloosterman (by decide) kX3_readKloosterman_ok (by decide +kernel) (by decide +kernel) (Or.inl ⟨rfl, rfl⟩) rfl (mm_eok_X3 _) (mm_calls_cons (mm_cbv wi_X3_advance (tb3 (i := 180) rfl rfl) (m_X3_advance l) (by decide) (by decide) rfl) (mm_calls_cons (mm_cbv wi_X3_readNumber (tb3 (i := 207) rfl rfl) (m_X3_readNumber l) (by decide) (by decide) rfl) (mm_calls_cons (mm_cbv wi_X3_skip (tb3 (i := 227) rfl rfl) (m_X3_skip l) (by decide) (by decide) rfl) (mm_calls_cons (mm_cbv wi_X2_add (tb3 (i := 215) rfl rfl) (m_X2_add l) (by decide) (by decide) rfl) (mm_calls_nil)))))
