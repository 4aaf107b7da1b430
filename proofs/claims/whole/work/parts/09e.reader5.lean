/-! the component's reader: factors, products, sums -/
theorem PH_fin2 {x : TP} {c1 c2 : CS} {ops v2 : List OP} {R : PR Nat} {o : Nat → OP} (hP1 : PXc x c1 (pSt R)) (hF : FC [21] IA [] c1 c2) (hl : 0 ≤ c2.1 21 ∧ c2.1 21 ≤ 200) (ha : ∀ ops : List OP, PGc c1 ops → ops.length < 200 → PGc c2 (ops ++ [o (pVl 0 R)])) (hG : ∀ u, R = .inr u → PGc c1 (ops ++ v2) ∧ (ops ++ v2).length < u.1 ∧ u.1 ≤ 200) : PH x c2 ops (pB R (fun p v => .inr (p, v2 ++ [o v]))) := by
  cases R with
  | inl e => exact ⟨PXc_fr hP1 hF rfl, hl⟩
  | inr u =>
    obtain ⟨g1, g2, g3⟩ := hG u rfl
    refine ⟨PXc_fr hP1 hF rfl, ?_, ?_⟩
    · have := ha (ops ++ v2) g1 (by omega)
      rw [List.append_assoc] at this
      exact this
    · show (ops ++ (v2 ++ [_])).length ≤ u.1
      rw [← List.append_assoc, List.length_append]
      simp only [List.length_cons, List.length_nil]
      omega
theorem PH_op {x : TP} {c1 c2 : CS} {ops : List OP} {R : PR (List OP)} {o : OP} (hH : PH x c1 ops R) (hF : FC [21] IA [] c1 c2) (hl : 0 ≤ c2.1 21 ∧ c2.1 21 ≤ 200) (ha : ∀ ops : List OP, PGc c1 ops → ops.length < 200 → PGc c2 (ops ++ [o])) (hx : x.2 ≤ 200) (hs : ∀ v, R = .inr v → (ops ++ v.2).length + 1 ≤ v.1) : PH x c2 ops (pB R (fun p v2 => .inr (p, v2 ++ [o]))) := by
  cases R with
  | inl e => exact ⟨PXc_fr hH.1 hF rfl, hl⟩
  | inr v =>
    have h1 := hs v rfl
    have h4 : v.1 ≤ x.2 := hH.1.2.2.2.2.2
    refine ⟨PXc_fr hH.1 hF rfl, ?_, ?_⟩
    · have := ha (ops ++ v.2) hH.2.1 (by omega)
      rw [List.append_assoc] at this
      exact this
    · show (ops ++ (v.2 ++ [o])).length ≤ v.1
      rw [← List.append_assoc, List.length_append]
      simp only [List.length_cons, List.length_nil]
      omega
abbrev e_X3_readFactor (O : Int → Prop) (A : Nat → TP → Nat → PR (List OP)) : NE := (ftX3, [(76, (1, 0, 0, false, (0, 3), (TH O A))), (53, (1, 0, 0, false, (0, 3), T_X3_advance)), (82, (2, 0, 0, false, (0, 3), T_X3_readNumber)), (69, (5, 0, 0, false, (0, 2), T_X2_add))], ltX3, [], [], false, 0, (0, 0), [], [], [], true)
set_option maxHeartbeats 4000000 in
theorem s_X3_readFactor (O : Int → Prop) (A : Nat → TP → Nat → PR (List OP)) : mm_Spec (e_X3_readFactor O A) kX3_readFactor 1 (TH O (fun f x => pFac x (A f x))) := by
  rintro N X K av h hK ⟨w, c, f, x, P, ops, rfl, rfl, hFG, hT, hP, hQ, h17, hO, h2⟩
  have hx := hT.2.1
  have ef : pL (pFac x (A f x)) P = pB (pL (A f x) P) (fun p ops => if tTk x p = 94 then pB (pNum x (cLt 21) (tNx x p)) (fun p n => .inr (p, ops ++ [(12, (n : Int), 0, 0)])) else .inr (p, ops)) := pL_pB _ _ _
  rw [ef] at h2
  refine ⟨rfl, hK [38] _ _ _ _ _ _ ?_⟩
  refine ⟨w, c, f, x, P, ops, rfl, rfl, hFG, hT, hP, hQ, h17, hO, fun c1 hF1 g17 hH => ?_⟩
  have hT1 := TPc_fr hT hF1 rfl rfl
  cases hr : pL (A f x) P with
  | inl e =>
    rw [hr] at hH h2
    have e7 := hH.1.2.2.2.2.2.2
    refine And.intro (fun _ => ?_) (fun q => absurd q (by omega))
    exact h2 c1 hF1 g17 hH
  | inr v =>
    rw [hr] at hH h2
    have h2 : ∀ c' : CS, FC IR IA [] c c' → c'.1 17 = c.1 17 → PH x c' ops (if tTk x v.1 = 94 then pB (pNum x (cLt 21) (tNx x v.1)) (fun p n => .inr (p, v.2 ++ [(12, (n : Int), 0, 0)])) else .inr v) → N none (hC w c') := h2
    have hP1 : PXc x c1 (.inr v.1) := hH.1
    conv => whnf
    rw [hP1.2.2.2.1]
    refine And.intro (fun q => ?_) (fun q => ?_)
    · rw [if_neg q] at h2
      exact h2 c1 hF1 g17 hH
    · rw [if_pos q] at h2
      obtain ⟨a1, a2⟩ := pAtq_ok hP1
      have hnx := nx_lt hP1.2.2.2.2.2 (show tTk x v.1 ≠ -1 by omega)
      refine ⟨w, c1, x, tNx x v.1, rfl, rfl, hT1, a1, a2, fun c2 hF2 hk => ?_⟩
      have hP2 : PXc x c2 (.inr (tNx x v.1)) := PXc_adv hP1 hF2 hk
      have hF12 : FC IR IA [] c c2 := FC_tr hF1 hF2 rfl rfl rfl
      have nb : ∀ b : Int, (b = 1 ∧ c2.1 20 < ((21 : Nat) : Int)) ∨ (b = 0 ∧ ((21 : Nat) : Int) ≤ c2.1 20) → K 38 [some (mR 25)] [mI b, mR 25, mI 12, mR 26] (hC w c2) 0 0 := by
        intro b hb
        refine hK [] _ _ _ _ _ _ ?_
        refine ⟨w, c2, x, .inr (tNx x v.1), cLt 21, b, rfl, rfl, TPc_fr hT1 hF2 rfl rfl, hP2, hb_lt hP2 hb, fun c3 hF3 hP3 => ?_⟩
        have hF23 : FC F6c [] [] c1 c3 := FC_tr (FC_mono hF2 rfl rfl rfl) hF3 rfl rfl rfl
        have hst := PH_st hH hx
        refine ⟨w, c3, (12, ((pVl 0 (pL (pNum x (cLt 21)) (.inr (tNx x v.1))) : Nat) : Int), 0, 0), rfl, rfl, by rw [hF23.1 21 rfl]; exact hst.2, fun c4 hF4 hl ha => ?_⟩
        refine h2 c4 (FC_tr (FC_tr hF1 hF23 rfl rfl rfl) hF4 rfl rfl rfl) ((hF4.1 17 rfl).trans ((hF23.1 17 rfl).trans g17)) ?_
        refine PH_fin2 (R := pNum x (cLt 21) (tNx x v.1)) (o := fun n => (12, (n : Int), 0, 0)) hP3 hF4 hl ha (fun u hu => ?_)
        have hm := mon_num hnx.2 hu
        have h5 := hH.2.2
        exact ⟨PGc_fr hH.2.1 hF23 rfl rfl, by omega, by omega⟩
      refine And.intro (fun z => ?_) (fun z => ?_)
      · exact nb 0 (Or.inr ⟨rfl, by omega⟩)
      · exact nb 1 (Or.inl ⟨rfl, by omega⟩)
theorem m_X3_readFactor (O : Int → Prop) (A : Nat → TP → Nat → PR (List OP)) (lv : Nat) (hlv : 8 ≤ lv) (ih : ∀ l : Launch, mm_Met l yX3_readAtom cX3_readAtom 1 none lv 0 0 (TH O A)) (l : Launch) : mm_Met l yX3_readFactor cX3_readFactor 1 none (lv + 1) 0 0 (TH O (fun f x => pFac x (A f x))) := mm_met (E := e_X3_readFactor O A) (cd := kX3_readFactor) (s_X3_readFactor O A) (by decide) kX3_readFactor_ok (by decide +kernel) (by rfl) (Or.inl ⟨rfl, rfl⟩) rfl (mm_eok_X3 _) (mm_calls_cons (mm_cbv wi_X3_readAtom (tb3 (i := 199) rfl rfl) (ih l) (by omega) (by omega) rfl) (mm_calls_cons (mm_cbv wi_X3_advance (tb3 (i := 180) rfl rfl) (m_X3_advance l) (by omega) (by omega) rfl) (mm_calls_cons (mm_cbv wi_X3_readNumber (tb3 (i := 207) rfl rfl) (m_X3_readNumber l) (by omega) (by omega) rfl) (mm_calls_cons (mm_cbv wi_X2_add (tb3 (i := 215) rfl rfl) (m_X2_add l) (by omega) (by omega) rfl) (mm_calls_nil)))))
abbrev e_X3_readProduct (O : Int → Prop) (A : Nat → TP → Nat → PR (List OP)) : NE := (ftX3, [(73, (1, 0, 0, false, (0, 3), (TH O (fun f x => pFac x (A f x))))), (53, (1, 0, 0, false, (0, 3), T_X3_advance)), (69, (5, 0, 0, false, (0, 2), T_X2_add))], ltX3, [], [], false, 0, (0, 0), [], [], [], true)
set_option maxHeartbeats 8000000 in
theorem s_X3_readProduct (O : Int → Prop) (A : Nat → TP → Nat → PR (List OP)) (hM : ∀ f x, MO x (A f x)) : mm_Spec (e_X3_readProduct O A) kX3_readProduct 2 (TH O (fun f x => pTm x (A f x))) := by
  rintro N X K av h hK ⟨w, c, f, x, P, ops, rfl, rfl, hFG, hT, hP, hQ, h17, hO, h2⟩
  have hx := hT.2.1
  have ef : pL (pTm x (A f x)) P = pB (pL (pFac x (A f x)) P) (fun p ops => pTmL x (A f x) 201 p ops) := pL_pB _ _ _
  rw [ef] at h2
  have bad : ∀ (c1 : CS) (e : Nat × Nat) (i : Int), (0 ≤ i ∧ i ≤ 1000) → FC IR IA [] c c1 → c1.1 17 = c.1 17 → PXc x c1 (.inl e) → (0 ≤ c1.1 21 ∧ c1.1 21 ≤ 200) → pB (pL (pFac x (A f x)) P) (fun p ops => pTmL x (A f x) 201 p ops) = .inl e → K 6 [some (mR 25), some (mI i)] [] (hC w c1) 0 0 := by
    intro c1 e i hi hF1 g17 hP1 hl er
    rw [er] at h2
    have e7 := hP1.2.2.2.2.2.2
    have done := h2 c1 hF1 g17 ⟨hP1, hl⟩
    refine hK [] _ _ _ _ _ _ ?_
    refine And.intro (fun _ => done) (fun _ => ?_)
    refine And.intro (fun _ => ?_) (fun q => absurd q (by omega))
    exact done
  have loop : ∀ q0 : Nat, P = .inr q0 → ∀ (k p i : Nat) (o2 : List OP) (c1 : CS), p ≤ x.2 → x.2 < p + k → i < p → FC IR IA [] c c1 → c1.1 17 = c.1 17 → PXc x c1 (.inr p) → PGc c1 (ops ++ o2) → (ops ++ o2).length ≤ p → pB (pL (pFac x (A f x)) P) (fun p ops => pTmL x (A f x) 201 p ops) = pTmL x (A f x) k p o2 → K 6 [some (mR 25), some (mI i)] [] (hC w c1) 0 0 := by
    intro q0 hq0 k
    induction k with
    | zero =>
      intro p i o2 c1 hp hk
      omega
    | succ k ih =>
      intro p i o2 c1 hp hk hip hF1 g17 hP1 hG1 hl1 er
      have hT1 := TPc_fr hT hF1 rfl rfl
      have er2 : pTmL x (A f x) (k + 1) p o2 = if tTk x p = 42 then pB (pFac x (A f x) (tNx x p)) (fun p o3 => pTmL x (A f x) k p (o2 ++ (o3 ++ [(11, 0, 0, 0)]))) else .inr (p, o2) := rfl
      rw [er2] at er
      have e3 := hP1.2.2.2.1
      refine hK [6] _ _ _ _ _ _ ?_
      conv => whnf
      rw [hT1.1]
      refine And.intro (fun z => ?_) (fun z => ?_)
      · omega
      conv => whnf
      rw [e3]
      refine And.intro (fun q => ?_) (fun q => ?_)
      · rw [if_neg q] at er
        rw [er] at h2
        exact h2 c1 hF1 g17 ⟨hP1, hG1, hl1⟩
      · rw [if_pos q] at er
        obtain ⟨a1, a2⟩ := pAtq_ok hP1
        have hnx := nx_lt hp (show tTk x p ≠ -1 by omega)
        refine ⟨w, c1, x, tNx x p, rfl, rfl, hT1, a1, a2, fun c2 hF2 hk2 => ?_⟩
        have hP2 : PXc x c2 (.inr (tNx x p)) := PXc_adv hP1 hF2 hk2
        have hF12 : FC IR IA [] c c2 := FC_tr hF1 hF2 rfl rfl rfl
        have g172 : c2.1 17 = c.1 17 := (hF2.1 17 rfl).trans g17
        have hG2 := PGc_fr hG1 hF2 rfl rfl
        have hlen2 : 0 ≤ c2.1 21 ∧ c2.1 21 ≤ 200 := by rw [hG2.1]; omega
        refine ⟨w, c2, f, x, .inr (tNx x p), ops ++ o2, rfl, rfl, CFG_r hFG hF12, TPc_fr hT hF12 rfl rfl, hP2, ⟨hlen2, fun p' hp' => ?_⟩, by rw [g172]; exact h17, fun _ _ => by rw [g172]; exact hO q0 hq0, fun c3 hF3 g173 hH => ?_⟩
        · cases hp'
          exact ⟨hG2, by omega⟩
        have hF13 := FC_r hF12 hF3
        have hH : PH x c3 (ops ++ o2) (pFac x (A f x) (tNx x p)) := hH
        have hst := PH_st hH hx
        refine ⟨w, c3, (11, 0, 0, 0), rfl, rfl, hst.2, fun c4 hF4 hl4 ha => ?_⟩
        have hF14 : FC IR IA [] c c4 := FC_tr hF13 hF4 rfl rfl rfl
        have g174 : c4.1 17 = c.1 17 := (hF4.1 17 rfl).trans (g173.trans g172)
        have hop := PH_op (o := (11, 0, 0, 0)) hH hF4 hl4 ha hx (fun v hv => by
          have mv := MO_fac (hM f x) _ v hnx.2 hv
          rw [List.length_append]
          omega)
        refine And.intro (rng_of (by omega) (by omega)) ?_
        cases hr : pFac x (A f x) (tNx x p) with
        | inl e =>
          rw [hr] at hop er
          exact bad c4 e _ (by omega) hF14 g174 hop.1 hop.2 er
        | inr v =>
          have mv := MO_fac (hM f x) _ v hnx.2 hr
          rw [hr] at hop er
          obtain ⟨p1, p2, p3⟩ := hop
          have p2 : PGc c4 ((ops ++ o2) ++ (v.2 ++ [(11, 0, 0, 0)])) := p2
          have p3 : ((ops ++ o2) ++ (v.2 ++ [((11, 0, 0, 0) : OP)])).length ≤ v.1 := p3
          rw [List.append_assoc] at p2 p3
          exact ih v.1 (i + 1) _ c4 mv.2.2 (by omega) (by omega) hF14 g174 p1 p2 p3 er
  refine ⟨rfl, hK [6] _ _ _ _ _ _ ?_⟩
  refine ⟨w, c, f, x, P, ops, rfl, rfl, hFG, hT, hP, hQ, h17, hO, fun c1 hF1 g17 hH => ?_⟩
  have hH : PH x c1 ops (pL (pFac x (A f x)) P) := hH
  cases hr : pL (pFac x (A f x)) P with
  | inl e =>
    rw [hr] at hH
    exact bad c1 e 0 (by omega) hF1 g17 hH.1 hH.2 (by rw [hr]; rfl)
  | inr v =>
    rw [hr] at hH
    obtain ⟨p1, p2, p3⟩ := hH
    cases P with
    | inl e => cases hr
    | inr q0 =>
      have mv := MO_fac (hM f x) q0 v hP.2.2.2.2.2 hr
      exact loop q0 rfl 201 v.1 0 v.2 c1 mv.2.2 (by omega) (by omega) hF1 g17 p1 p2 p3 (by rw [hr]; rfl)
theorem m_X3_readProduct (O : Int → Prop) (A : Nat → TP → Nat → PR (List OP)) (hM : ∀ f x, MO x (A f x)) (lv : Nat) (hlv : 8 ≤ lv) (ih : ∀ l : Launch, mm_Met l yX3_readFactor cX3_readFactor 1 none lv 0 0 (TH O (fun f x => pFac x (A f x)))) (l : Launch) : mm_Met l yX3_readProduct cX3_readProduct 2 none (lv + 1) 0 0 (TH O (fun f x => pTm x (A f x))) := mm_met (E := e_X3_readProduct O A ) (cd := kX3_readProduct) (s_X3_readProduct  O A hM) (by decide) kX3_readProduct_ok (by decide +kernel) (by rfl) (Or.inl ⟨rfl, rfl⟩) rfl (mm_eok_X3 _) (mm_calls_cons (mm_cbv wi_X3_readFactor (tb3 (i := 195) rfl rfl) (ih l) (by omega) (by omega) rfl) (mm_calls_cons (mm_cbv wi_X3_advance (tb3 (i := 180) rfl rfl) (m_X3_advance l) (by omega) (by omega) rfl) (mm_calls_cons (mm_cbv wi_X2_add (tb3 (i := 215) rfl rfl) (m_X2_add l) (by omega) (by omega) rfl) (mm_calls_nil))))
abbrev e_X3_readSum (O : Int → Prop) (A : Nat → TP → Nat → PR (List OP)) : NE := (ftX3, [(66, (1, 0, 0, false, (0, 3), (TH O (fun f x => pTm x (A f x))))), (53, (1, 0, 0, false, (0, 3), T_X3_advance)), (69, (5, 0, 0, false, (0, 2), T_X2_add))], ltX3, [], [], false, 0, (0, 0), [], [], [], true)
set_option maxHeartbeats 8000000 in
theorem s_X3_readSum (O : Int → Prop) (A : Nat → TP → Nat → PR (List OP)) (hM : ∀ f x, MO x (A f x)) : mm_Spec (e_X3_readSum O A) kX3_readSum 3 (TH O (fun f x => pRw x (A f x))) := by
  rintro N X K av h hK ⟨w, c, f, x, P, ops, rfl, rfl, hFG, hT, hP, hQ, h17, hO, h2⟩
  have hx := hT.2.1
  have ef : pL (pRw x (A f x)) P = pB (pL (pTm x (A f x)) P) (fun p ops => pRwL x (A f x) 201 p ops) := pL_pB _ _ _
  rw [ef] at h2
  have bad : ∀ (c1 : CS) (e : Nat × Nat) (i : Int) (o : Option MV), (0 ≤ i ∧ i ≤ 1000) → FC IR IA [] c c1 → c1.1 17 = c.1 17 → PXc x c1 (.inl e) → (0 ≤ c1.1 21 ∧ c1.1 21 ≤ 200) → pB (pL (pTm x (A f x)) P) (fun p ops => pRwL x (A f x) 201 p ops) = .inl e → K 6 [some (mR 25), some (mI i), o] [] (hC w c1) 0 0 := by
    intro c1 e i o hi hF1 g17 hP1 hl er
    rw [er] at h2
    have e7 := hP1.2.2.2.2.2.2
    have done := h2 c1 hF1 g17 ⟨hP1, hl⟩
    refine hK [] _ _ _ _ _ _ ?_
    refine And.intro (fun _ => done) (fun _ => ?_)
    refine And.intro (fun q => absurd q (by omega)) (fun _ => ?_)
    refine And.intro (fun _ => ?_) (fun q => absurd q (by omega))
    exact done
  have loop : ∀ q0 : Nat, P = .inr q0 → ∀ (k p i : Nat) (o2 : List OP) (c1 : CS) (o : Option MV), p ≤ x.2 → x.2 < p + k → i < p → FC IR IA [] c c1 → c1.1 17 = c.1 17 → PXc x c1 (.inr p) → PGc c1 (ops ++ o2) → (ops ++ o2).length ≤ p → pB (pL (pTm x (A f x)) P) (fun p ops => pRwL x (A f x) 201 p ops) = pRwL x (A f x) k p o2 → K 6 [some (mR 25), some (mI i), o] [] (hC w c1) 0 0 := by
    intro q0 hq0 k
    induction k with
    | zero =>
      intro p i o2 c1 o hp hk
      omega
    | succ k ih =>
      intro p i o2 c1 o hp hk hip hF1 g17 hP1 hG1 hl1 er
      have hT1 := TPc_fr hT hF1 rfl rfl
      have er2 : pRwL x (A f x) (k + 1) p o2 = if tTk x p = 43 ∨ tTk x p = 45 then pB (pTm x (A f x) (tNx x p)) (fun p2 o3 => pRwL x (A f x) k p2 (o2 ++ (o3 ++ [(if tTk x p = 43 then 9 else 10, 0, 0, 0)]))) else .inr (p, o2) := rfl
      rw [er2] at er
      have e3 := hP1.2.2.2.1
      have go : ∀ st : Nat, (tTk x p = 43 ∨ tTk x p = 45) → (if tTk x p = 43 then 9 else 10 : Nat) = st → K 48 [some (mR 25), some (mI i), o] [mI (st : Nat)] (hC w c1) 0 0 := by
        intro st q es
        rw [if_pos q, es] at er
        obtain ⟨a1, a2⟩ := pAtq_ok hP1
        have hnx := nx_lt hp (show tTk x p ≠ -1 by omega)
        refine hK [6] _ _ _ _ _ _ ?_
        refine ⟨w, c1, x, tNx x p, rfl, rfl, hT1, a1, a2, fun c2 hF2 hk2 => ?_⟩
        have hP2 : PXc x c2 (.inr (tNx x p)) := PXc_adv hP1 hF2 hk2
        have hF12 : FC IR IA [] c c2 := FC_tr hF1 hF2 rfl rfl rfl
        have g172 : c2.1 17 = c.1 17 := (hF2.1 17 rfl).trans g17
        have hG2 := PGc_fr hG1 hF2 rfl rfl
        have hlen2 : 0 ≤ c2.1 21 ∧ c2.1 21 ≤ 200 := by rw [hG2.1]; omega
        refine ⟨w, c2, f, x, .inr (tNx x p), ops ++ o2, rfl, rfl, CFG_r hFG hF12, TPc_fr hT hF12 rfl rfl, hP2, ⟨hlen2, fun p' hp' => ?_⟩, by rw [g172]; exact h17, fun _ _ => by rw [g172]; exact hO q0 hq0, fun c3 hF3 g173 hH => ?_⟩
        · cases hp'
          exact ⟨hG2, by omega⟩
        have hF13 := FC_r hF12 hF3
        have hH : PH x c3 (ops ++ o2) (pTm x (A f x) (tNx x p)) := hH
        have hst := PH_st hH hx
        refine ⟨w, c3, (st, 0, 0, 0), rfl, rfl, hst.2, fun c4 hF4 hl4 ha => ?_⟩
        have hF14 : FC IR IA [] c c4 := FC_tr hF13 hF4 rfl rfl rfl
        have g174 : c4.1 17 = c.1 17 := (hF4.1 17 rfl).trans (g173.trans g172)
        have hop := PH_op (o := (st, 0, 0, 0)) hH hF4 hl4 ha hx (fun v hv => by
          have mv := MO_tm (hM f x) _ v hnx.2 hv
          rw [List.length_append]
          omega)
        refine And.intro (rng_of (by omega) (by omega)) ?_
        cases hr : pTm x (A f x) (tNx x p) with
        | inl e =>
          rw [hr] at hop er
          exact bad c4 e _ _ (by omega) hF14 g174 hop.1 hop.2 er
        | inr v =>
          have mv := MO_tm (hM f x) _ v hnx.2 hr
          rw [hr] at hop er
          obtain ⟨p1, p2, p3⟩ := hop
          have p2 : PGc c4 ((ops ++ o2) ++ (v.2 ++ [(st, 0, 0, 0)])) := p2
          have p3 : ((ops ++ o2) ++ (v.2 ++ [((st, 0, 0, 0) : OP)])).length ≤ v.1 := p3
          rw [List.append_assoc] at p2 p3
          exact ih v.1 (i + 1) _ c4 _ mv.2.2 (by omega) (by omega) hF14 g174 p1 p2 p3 er
      refine hK [48] _ _ _ _ _ _ ?_
      conv => whnf
      rw [hT1.1]
      refine And.intro (fun z => ?_) (fun z => ?_)
      · omega
      conv => whnf
      rw [e3]
      refine And.intro (fun q => ?_) (fun q => ?_)
      · conv => whnf
        rw [e3]
        refine And.intro (fun q => absurd q (by omega)) (fun _ => ?_)
        exact go 9 (Or.inl q) (if_pos q)
      · conv => whnf
        rw [e3]
        refine And.intro (fun q2 => ?_) (fun q2 => ?_)
        · rw [if_neg (by omega)] at er
          rw [er] at h2
          exact h2 c1 hF1 g17 ⟨hP1, hG1, hl1⟩
        · conv => whnf
          rw [e3]
          refine And.intro (fun _ => ?_) (fun q => absurd q (by omega))
          exact go 10 (Or.inr q2) (if_neg q)
  refine ⟨rfl, hK [6] _ _ _ _ _ _ ?_⟩
  refine ⟨w, c, f, x, P, ops, rfl, rfl, hFG, hT, hP, hQ, h17, hO, fun c1 hF1 g17 hH => ?_⟩
  have hH : PH x c1 ops (pL (pTm x (A f x)) P) := hH
  cases hr : pL (pTm x (A f x)) P with
  | inl e =>
    rw [hr] at hH
    exact bad c1 e 0 _ (by omega) hF1 g17 hH.1 hH.2 (by rw [hr]; rfl)
  | inr v =>
    rw [hr] at hH
    obtain ⟨p1, p2, p3⟩ := hH
    cases P with
    | inl e => cases hr
    | inr q0 =>
      have mv := MO_tm (hM f x) q0 v hP.2.2.2.2.2 hr
      exact loop q0 rfl 201 v.1 0 v.2 c1 _ mv.2.2 (by omega) (by omega) hF1 g17 p1 p2 p3 (by rw [hr]; rfl)
theorem m_X3_readSum (O : Int → Prop) (A : Nat → TP → Nat → PR (List OP)) (hM : ∀ f x, MO x (A f x)) (lv : Nat) (hlv : 8 ≤ lv) (ih : ∀ l : Launch, mm_Met l yX3_readProduct cX3_readProduct 2 none lv 0 0 (TH O (fun f x => pTm x (A f x)))) (l : Launch) : mm_Met l yX3_readSum cX3_readSum 3 none (lv + 1) 0 0 (TH O (fun f x => pRw x (A f x))) := mm_met (E := e_X3_readSum O A ) (cd := kX3_readSum) (s_X3_readSum  O A hM) (by decide) kX3_readSum_ok (by decide +kernel) (by rfl) (Or.inl ⟨rfl, rfl⟩) rfl (mm_eok_X3 _) (mm_calls_cons (mm_cbv wi_X3_readProduct (tb3 (i := 191) rfl rfl) (ih l) (by omega) (by omega) rfl) (mm_calls_cons (mm_cbv wi_X3_advance (tb3 (i := 180) rfl rfl) (m_X3_advance l) (by omega) (by omega) rfl) (mm_calls_cons (mm_cbv wi_X2_add (tb3 (i := 215) rfl rfl) (m_X2_add l) (by omega) (by omega) rfl) (mm_calls_nil))))
