/-! the component's reader: openings, atoms, the whole text -/
theorem PH_17 {x : TP} {c : CS} {ops : List OP} {R : PR (List OP)} {v : Int} (h : PH x c ops R) : PH x (kI c 17 v) ops R := by
  have hF : FC [17] [] [] c (kI c 17 v) := FC_I (FC_rf c) rfl
  cases R with
  | inl e => exact ⟨PXc_fr h.1 hF rfl, h.2⟩
  | inr u => exact ⟨PXc_fr h.1 hF rfl, PGc_fr h.2.1 hF rfl rfl, h.2.2⟩
def TO (On : Int → Prop) (dp : Bool) (A : Nat → TP → Nat → PR (List OP)) : Tr := fun av h N _ => ∃ (w : CW) (c : CS) (f : Nat) (x : TP) (p : Nat) (ops : List OP), av = [mR 25] ∧ h = hC w c ∧ CFG f c ∧ TPc x c ∧ PXc x c (.inr p) ∧ QGc c (.inr p) ops ∧ isOp (tTk x p) ∧ On (c.1 17) ∧ ∀ c' : CS, FC IR IA [] c c' → c'.1 17 = c.1 17 → PH x c' ops (pAtG x f dp (A f x) p) → N none (hC w c')
theorem hb_mv {x : TP} {c : CS} {P : PP} {f : Nat} (hP : PXc x c P) : ∀ p, P = .inr p → tTk x p = -2 → bi (okM f (c.1 20)) = (ind (cMv f (tNm x p)) : Nat) := by
  intro p hp _
  subst hp
  rw [hP.2.2.2.2.1]
  by_cases q : okM f ((tNm x p : Nat) : Int)
  · rw [bi_t q, ind_t (show cMv f (tNm x p) = true from decide_eq_true q)]
  · rw [bi_f q, ind_f (show cMv f (tNm x p) = false from decide_eq_false q)]
abbrev e_X3_readOpening (O : Int → Prop) (A : Nat → TP → Nat → PR (List OP)) : NE := (ftX3, [(62, (2, 0, 0, false, (0, 3), T_X3_refuse)), (53, (1, 0, 0, false, (0, 3), T_X3_advance)), (56, (1, 0, 0, false, (0, 3), (TH O (fun f x => pRw x (A f x))))), (120, (2, 0, 0, false, (0, 3), T_X3_skip)), (76, (1, 0, 0, false, (0, 3), (TH O A))), (69, (5, 0, 0, false, (0, 2), T_X2_add)), (127, (2, 0, 0, false, (0, 4), T_X4_moves)), (82, (2, 0, 0, false, (0, 3), T_X3_readNumber))], ltX3, [], [], false, 0, (0, 0), [], [], [], true)
set_option maxHeartbeats 16000000 in
theorem s_X3_readOpening (O On : Int → Prop) (A : Nat → TP → Nat → PR (List OP)) (dp : Bool) (hM : ∀ f x, MO x (A f x)) (hOn : ∀ o, On o → (dp = true → o = 6) ∧ (dp = false → (0 ≤ o ∧ o < 6) ∧ O (o + 1))) : mm_Spec (e_X3_readOpening O A) kX3_readOpening 3 (TO On dp A) := by
  rintro N X K av h hK ⟨w, c, f, x, p, ops, rfl, rfl, hFG, hT, hP, hQ, hop, hO, h2⟩
  have hx := hT.2.1
  obtain ⟨o1, o2⟩ := hOn _ hO
  obtain ⟨q1, q2⟩ := hQ.2 p rfl
  have hp := hP.2.2.2.2.2
  have hnx := nx_lt hp (show tTk x p ≠ -1 by omega)
  cases hd : dp with
  | true =>
    have h6 := o1 hd
    have e : pAtG x f dp (A f x) p = .inl (3, tSt x p) := by
      unfold pAtG
      rw [if_pos hop, hd]
    rw [e] at h2
    refine ⟨rfl, hK [] _ _ _ _ _ _ ?_⟩
    refine And.intro (fun q => absurd q (by omega)) (fun _ => ?_)
    refine ⟨w, c, x, .inr p, 3, rfl, rfl, hT, hP, by omega, by omega, fun c1 hF1 hP1 => ?_⟩
    exact h2 c1 (FC_mono hF1 rfl rfl rfl) (hF1.1 17 rfl) ⟨hP1, by rw [hF1.1 21 rfl]; exact hQ.1⟩
  | false =>
    obtain ⟨o3, o4⟩ := o2 hd
    have ho6 : ¬ c.1 17 = 6 := by omega
    -- the end
    have fin : ∀ (c2 : CS) (m1 m2 : Option MV), FC IR IA [] c c2 → c2.1 17 = c.1 17 + 1 → PH x c2 ops (pAtG x f dp (A f x) p) → K 149 [some (mR 25), m1, m2] [] (hC w c2) 0 0 := by
      intro c2 m1 m2 hF2 g17 hH
      refine hK [] _ _ _ _ _ _ ?_
      conv => whnf
      rw [g17]
      refine And.intro (rng_of (by omega) (by omega)) ?_
      exact h2 (kI c2 17 (c.1 17 + 1 - 1)) (FC_I hF2 rfl) (by show c.1 17 + 1 - 1 = c.1 17; omega) (PH_17 hH)
    have e3 := hP.2.2.2.1
    refine ⟨rfl, hK [149] _ _ _ _ _ _ ?_⟩
    refine And.intro (fun _ => ?_) (fun q => absurd q (by omega))
    conv => whnf
    rw [e3]
    refine And.intro (rng_of (by omega) (by omega)) ?_
    have hF0 : FC IR IA [] c (kI c 17 (c.1 17 + 1)) := FC_I (FC_rf c) rfl
    have hP0 : PXc x (kI c 17 (c.1 17 + 1)) (.inr p) := PXc_fr hP (FC_I (I := [17]) (A := []) (L := []) (FC_rf c) rfl) rfl
    obtain ⟨a1, a2⟩ := pAtq_ok hP0
    refine ⟨w, kI c 17 (c.1 17 + 1), x, tNx x p, rfl, rfl, hT, a1, a2, fun c1 hF1 hk => ?_⟩
    have hP1 : PXc x c1 (.inr (tNx x p)) := PXc_adv hP0 hF1 hk
    have hF01 : FC IR IA [] c c1 := FC_tr hF0 hF1 rfl rfl rfl
    have g17 : c1.1 17 = c.1 17 + 1 := hF1.1 17 rfl
    have hT1 := TPc_fr hT hF01 rfl rfl
    have hG1 : PGc c1 ops := PGc_fr (PGc_fr q1 (c' := kI c 17 (c.1 17 + 1)) (FC_I (I := [17]) (A := []) (L := []) (FC_rf c) rfl) rfl rfl) hF1 rfl rfl
    have hl1 : 0 ≤ c1.1 21 ∧ c1.1 21 ≤ 200 := by rw [hG1.1]; omega
    have hQ1 : QGc c1 (.inr (tNx x p)) ops := ⟨hl1, fun p' hp' => by cases hp'; exact ⟨hG1, by omega⟩⟩
    have hFG1 := CFG_r hFG hF01
    -- a step behind an atom
    have opAt : ∀ (R : PR (List OP)) (c3 c4 : CS) (o : OP) (m1 m2 : Option MV), FC IR IA [] c c3 → c3.1 17 = c.1 17 + 1 → PH x c3 ops R → (∀ v, R = .inr v → tNx x p + v.2.length ≤ v.1) → FC [21] IA [] c3 c4 → (0 ≤ c4.1 21 ∧ c4.1 21 ≤ 200) → (∀ ops : List OP, PGc c3 ops → ops.length < 200 → PGc c4 (ops ++ [o])) → pAtG x f dp (A f x) p = pB R (fun p v2 => .inr (p, v2 ++ [o])) → K 149 [some (mR 25), m1, m2] [] (hC w c4) 0 0 := by
      intro R c3 c4 o m1 m2 hF3 g3 hH hm hF4 hl ha e
      have hH4 := PH_op (o := o) hH hF4 hl ha hx (fun v hv => by
        have := hm v hv
        rw [List.length_append]
        omega)
      rw [← e] at hH4
      exact fin c4 m1 m2 (FC_tr hF3 hF4 rfl rfl rfl) ((hF4.1 17 rfl).trans g3) hH4
    have op1 : pOp1 x dp p = .inr (tNx x p) := by rw [hd]; rfl
    refine And.intro (fun z => ?_) (fun z => ?_)
    · -- no bracket
      refine And.intro (fun z2 => ?_) (fun z2 => ?_)
      · refine And.intro (fun z3 => ?_) (fun z3 => ?_)
        · -- moved
          have z4 : tTk x p = 109 := by omega
          have e := pAtG_109 (f := f) (dp := dp) (A := A f x) z4
          rw [op1] at e
          refine ⟨w, c1, f, c1.1 20, rfl, rfl, hFG1.2, ?_⟩
          refine ⟨w, c1, x, .inr (tNx x p), cMv f, bi (okM f (c1.1 20)), rfl, rfl, hT1, hP1, hb_mv hP1, fun c2 hF2 hP2 => ?_⟩
          obtain ⟨R0, hR0⟩ : ∃ R0, R0 = pL (pNum x (cMv f)) (.inr (tNx x p)) := ⟨_, rfl⟩
          rw [← hR0] at hP2 e ⊢
          refine ⟨w, c2, x, pSt R0, 46, rfl, rfl, TPc_fr hT1 hF2 rfl rfl, hP2, by omega, fun c3 hF3 hP3 => ?_⟩
          have hF13 : FC F6c [] [] c1 c3 := FC_6 hF2 hF3
          have hF03 : FC IR IA [] c c3 := FC_tr hF01 hF13 rfl rfl rfl
          have g173 : c3.1 17 = c.1 17 + 1 := (hF13.1 17 rfl).trans g17
          have hG3 := PGc_fr hG1 hF13 rfl rfl
          have hpos : ∀ p', pSt (pL (pSkip x 46) (pSt R0)) = .inr p' → tNx x p ≤ p' ∧ p' ≤ x.2 := by
            intro p' hp'
            cases hz : R0 with
            | inl e => rw [hz] at hp'; cases hp'
            | inr u =>
              rw [hz] at hp' hR0
              have m1 := mon_num hnx.2 hR0.symm
              cases hz2 : pSkip x 46 u.1 with
              | inl e => rw [show pL (pSkip x 46) (pSt (Sum.inr u)) = pSkip x 46 u.1 from rfl, hz2] at hp'; cases hp'
              | inr u2 =>
                rw [show pL (pSkip x 46) (pSt (Sum.inr u)) = pSkip x 46 u.1 from rfl, hz2] at hp'
                have m2 := mon_skip (by omega) m1.2 hz2
                cases hp'
                exact ⟨by show tNx x p ≤ u2.1; omega, m2.2⟩
          refine ⟨w, c3, f, x, _, ops, rfl, rfl, CFG_r hFG hF03, TPc_fr hT hF03 rfl rfl, hP3, ⟨by rw [hG3.1]; omega, fun p' hp' => ⟨hG3, by have := hpos p' hp'; omega⟩⟩, by rw [g173]; omega, fun _ _ => by rw [g173]; exact o4, fun c4 hF4 g174 hH => ?_⟩
          have hst := PH_st hH hx
          refine ⟨w, c4, (8, ((pVl 0 R0 : Nat) : Int), 0, 0), rfl, rfl, hst.2, fun c5 hF5 hl ha => ?_⟩
          refine opAt _ c4 c5 _ _ _ (FC_r hF03 hF4) (g174.trans g173) hH (fun v hv => ?_) hF5 hl ha e
          cases hz : pSt (pL (pSkip x 46) (pSt R0)) with
          | inl e => rw [hz] at hv; cases hv
          | inr p' =>
            rw [hz] at hv
            have h5 := hpos p' hz
            have mv := hM f x p' v h5.2 hv
            omega
        · -- conjugate
          have e := pAtG_126 (f := f) (dp := dp) (A := A f x) z3
          rw [op1] at e
          refine ⟨w, c1, f, x, .inr (tNx x p), ops, rfl, rfl, hFG1, hT1, hP1, hQ1, by rw [g17]; omega, fun _ _ => by rw [g17]; exact o4, fun c3 hF3 g173 hH => ?_⟩
          have hst := PH_st hH hx
          have hFG3 := CFG_r hFG1 hF3
          have hb := fbase hFG.1.1.1
          conv => whnf
          rw [hFG3.2.2.1]
          refine And.intro (rng_of (by omega) (by omega)) ?_
          refine ⟨w, c3, (8, (fN f : Int) - 1, 0, 0), rfl, rfl, hst.2, fun c4 hF4 hl ha => ?_⟩
          exact opAt _ c3 c4 _ _ _ (FC_r hF01 hF3) (g173.trans g17) hH (fun v hv => (hM f x _ v hnx.2 hv).1) hF4 hl ha e
      · -- less
        have e := pAtG_45 (f := f) (dp := dp) (A := A f x) z2
        rw [op1] at e
        refine ⟨w, c1, f, x, .inr (tNx x p), ops, rfl, rfl, hFG1, hT1, hP1, hQ1, by rw [g17]; omega, fun _ _ => by rw [g17]; exact o4, fun c3 hF3 g173 hH => ?_⟩
        have hst := PH_st hH hx
        refine ⟨w, c3, (7, 0, 0, 0), rfl, rfl, hst.2, fun c4 hF4 hl ha => ?_⟩
        exact opAt _ c3 c4 _ _ _ (FC_r hF01 hF3) (g173.trans g17) hH (fun v hv => (hM f x _ v hnx.2 hv).1) hF4 hl ha e
    · -- a bracket
      have e := pAtG_40 (f := f) (dp := dp) (A := A f x) z
      rw [op1] at e
      refine ⟨w, c1, f, x, .inr (tNx x p), ops, rfl, rfl, hFG1, hT1, hP1, hQ1, by rw [g17]; omega, fun _ _ => by rw [g17]; exact o4, fun c3 hF3 g173 hH => ?_⟩
      have hst := PH_st hH hx
      have hF03 := FC_r hF01 hF3
      refine ⟨w, c3, x, _, 41, rfl, rfl, TPc_fr hT hF03 rfl rfl, hst.1, by omega, fun c4 hF4 hP4 => ?_⟩
      have hF4' : FC IR IA [] c3 c4 := FC_mono hF4 rfl rfl rfl
      refine fin c4 _ _ (FC_r hF03 hF4') ((hF4.1 17 rfl).trans (g173.trans g17)) ?_
      rw [e]
      have hH : PH x c3 ops (pL (pRw x (A f x)) (.inr (tNx x p))) := hH
      have hl4 : 0 ≤ c4.1 21 ∧ c4.1 21 ≤ 200 := by rw [hF4.1 21 rfl]; exact hst.2
      cases hr : pL (pRw x (A f x)) (.inr (tNx x p)) with
      | inl e =>
        have hP4 : PXc x c4 (pSt (pL (pSkip x 41) (pSt (pL (pRw x (A f x)) (.inr (tNx x p)))))) := hP4
        rw [hr] at hP4
        exact ⟨hP4, hl4⟩
      | inr v =>
        have hP4 : PXc x c4 (pSt (pL (pSkip x 41) (pSt (pL (pRw x (A f x)) (.inr (tNx x p)))))) := hP4
        rw [hr] at hP4 hH
        have hP4 : PXc x c4 (pSt (pSkip x 41 v.1)) := hP4
        show PH x c4 ops (pB (pSkip x 41 v.1) (fun p _ => .inr (p, v.2)))
        cases hr2 : pSkip x 41 v.1 with
        | inl e =>
          rw [hr2] at hP4
          exact ⟨hP4, hl4⟩
        | inr u =>
          rw [hr2] at hP4
          have m2 := mon_skip (by omega) hH.1.2.2.2.2.2 hr2
          exact ⟨hP4, PGc_fr hH.2.1 hF4 rfl rfl, Nat.le_trans hH.2.2 (by show v.1 ≤ u.1; omega)⟩
theorem m_X3_readOpening (O On : Int → Prop) (A : Nat → TP → Nat → PR (List OP)) (dp : Bool) (hM : ∀ f x, MO x (A f x)) (hOn : ∀ o, On o → (dp = true → o = 6) ∧ (dp = false → (0 ≤ o ∧ o < 6) ∧ O (o + 1))) (lv : Nat) (hlv : 8 ≤ lv) (ih : ∀ l : Launch, mm_Met l yX3_readAtom cX3_readAtom 1 none lv 0 0 (TH O A)) (ih2 : ∀ l : Launch, mm_Met l yX3_readSum cX3_readSum 3 none (lv + 3) 0 0 (TH O (fun f x => pRw x (A f x)))) (l : Launch) : mm_Met l yX3_readOpening cX3_readOpening 3 none (lv + 4) 0 0 (TO On dp A) := mm_met (E := e_X3_readOpening O A ) (cd := kX3_readOpening) (s_X3_readOpening  O On A dp hM hOn) (by decide) kX3_readOpening_ok (by decide +kernel) (by rfl) (Or.inl ⟨rfl, rfl⟩) rfl (mm_eok_X3 _) (mm_calls_cons (mm_cbv wi_X3_refuse (tb3 (i := 211) rfl rfl) (m_X3_refuse l) (by omega) (by omega) rfl) (mm_calls_cons (mm_cbv wi_X3_advance (tb3 (i := 180) rfl rfl) (m_X3_advance l) (by omega) (by omega) rfl) (mm_calls_cons (mm_cbv wi_X3_readSum (tb3 (i := 187) rfl rfl) (ih2 l) (by omega) (by omega) rfl) (mm_calls_cons (mm_cbv wi_X3_skip (tb3 (i := 227) rfl rfl) (m_X3_skip l) (by omega) (by omega) rfl) (mm_calls_cons (mm_cbv wi_X3_readAtom (tb3 (i := 199) rfl rfl) (ih l) (by omega) (by omega) rfl) (mm_calls_cons (mm_cbv wi_X2_add (tb3 (i := 215) rfl rfl) (m_X2_add l) (by omega) (by omega) rfl) (mm_calls_cons (mm_cbv wi_X4_moves (tb4 (i := 12) rfl rfl) (m_X4_moves l) (by omega) (by omega) rfl) (mm_calls_cons (mm_cbv wi_X3_readNumber (tb3 (i := 207) rfl rfl) (m_X3_readNumber l) (by omega) (by omega) rfl) (mm_calls_nil)))))))))
abbrev e_X3_readAtom (On : Int → Prop) (dp : Bool) (A : Nat → TP → Nat → PR (List OP)) : NE := (ftX3, [(86, (1, 0, 0, false, (0, 3), T_X3_readWhole)), (89, (1, 0, 0, false, (0, 3), T_X3_readRoot)), (92, (1, 0, 0, false, (0, 3), T_X3_readGauss)), (95, (1, 0, 0, false, (0, 3), T_X3_readJacobi)), (98, (1, 0, 0, false, (0, 3), T_X3_readKloosterman)), (101, (1, 0, 0, false, (0, 3), T_X3_readPeriod)), (104, (1, 0, 0, false, (0, 3), T_X3_readPlace)), (107, (1, 0, 0, false, (0, 3), (TO On dp A))), (62, (2, 0, 0, false, (0, 3), T_X3_refuse))], ltX3, [], [], false, 0, (0, 0), [], [], [], true)
set_option maxHeartbeats 8000000 in
theorem s_X3_readAtom (On : Int → Prop) (dp : Bool) (A : Nat → TP → Nat → PR (List OP)) : mm_Spec (e_X3_readAtom On dp A) kX3_readAtom 1 (TH On (fun f x => pAtG x f dp (A f x))) := by
  rintro N X K av h hK ⟨w, c, f, x, P, ops, rfl, rfl, hFG, hT, hP, hQ, h17, hO, h2⟩
  refine ⟨rfl, hK [] _ _ _ _ _ _ ?_⟩
  cases P with
  | inl e =>
    have e7 := hP.2.2.2.2.2.2
    conv => whnf
    rw [e7]
    refine And.intro (fun q => absurd q (by omega)) (fun _ => And.intro (fun q => absurd q (by omega)) (fun _ => And.intro (fun q => absurd q (by omega)) (fun _ => And.intro (fun q => absurd q (by omega)) (fun _ => And.intro (fun q => absurd q (by omega)) (fun _ => And.intro (fun q => absurd q (by omega)) (fun _ => And.intro (fun q => absurd q (by omega)) (fun _ => And.intro (fun q => absurd q (by omega)) (fun _ => And.intro (fun q => absurd q (by omega)) (fun _ => And.intro (fun q => absurd q (by omega)) (fun _ => And.intro (fun q => absurd q (by omega)) (fun _ => ?_)))))))))))
    refine ⟨w, c, x, .inl e, 1, rfl, rfl, hT, hP, by omega, by omega, fun c1 hF1 hP1 => ?_⟩
    exact h2 c1 (FC_mono hF1 rfl rfl rfl) (hF1.1 17 rfl) ⟨hP1, by rw [hF1.1 21 rfl]; exact hQ.1⟩
  | inr p =>
    have e3 := hP.2.2.2.1
    have h2 : ∀ c' : CS, FC IR IA [] c c' → c'.1 17 = c.1 17 → PH x c' ops (pAtG x f dp (A f x) p) → N none (hC w c') := h2
    have pl : ∀ (F : Nat → TP → Nat → PR (List OP)), ¬ isOp (tTk x p) → pPlain x f p = F f x (tNx x p) → TB F [mR 25] (hC w c) N (fun _ _ => False) := by
      intro F hno e
      rw [pAtG_pl hno, e] at h2
      exact ⟨w, c, f, x, .inr p, ops, rfl, rfl, hFG, hT, hP, hQ, h2⟩
    have opn : isOp (tTk x p) → TO On dp A [mR 25] (hC w c) N (fun _ _ => False) := fun hop => ⟨w, c, f, x, p, ops, rfl, rfl, hFG, hT, hP, hQ, hop, hO p rfl, h2⟩
    conv => whnf
    rw [e3]
    refine And.intro (fun q => ?_) (fun r1 => And.intro (fun q => ?_) (fun r2 => And.intro (fun q => ?_) (fun r3 => And.intro (fun q => ?_) (fun r4 => And.intro (fun q => ?_) (fun r5 => And.intro (fun q => ?_) (fun r6 => And.intro (fun q => ?_) (fun r7 => And.intro (fun q => ?_) (fun r8 => And.intro (fun q => ?_) (fun r9 => And.intro (fun q => ?_) (fun r10 => And.intro (fun q => ?_) (fun r11 => ?_)))))))))))
    · have e : pAtG x f dp (A f x) p = pWhc x p := by
        rw [pAtG_pl (by unfold isOp; omega)]
        unfold pPlain
        rw [if_pos q]
      rw [e] at h2
      exact ⟨w, c, x, p, ops, rfl, rfl, hT, hP, hQ, h2⟩
    · exact pl pPlc2 (by unfold isOp; omega) (by unfold pPlain; rw [q]; rfl)
    · exact opn (Or.inl q)
    · exact opn (Or.inr (Or.inl q))
    · exact pl pGac (by unfold isOp; omega) (by unfold pPlain; rw [q]; rfl)
    · exact pl pJac (by unfold isOp; omega) (by unfold pPlain pJac pThr; rw [q]; rfl)
    · exact pl pKlc (by unfold isOp; omega) (by unfold pPlain; rw [q]; rfl)
    · exact opn (Or.inr (Or.inr (Or.inr q)))
    · exact pl pPec (by unfold isOp; omega) (by unfold pPlain; rw [q]; rfl)
    · exact pl pRtc (by unfold isOp; omega) (by unfold pPlain; rw [q]; rfl)
    · exact opn (Or.inr (Or.inr (Or.inl q)))
    · have e : pAtG x f dp (A f x) p = .inl (1, tSt x p) := by
        rw [pAtG_pl (by unfold isOp; omega)]
        unfold pPlain
        rw [if_neg r1, if_neg r10, if_neg r5, if_neg r6, if_neg r7, if_neg r9, if_neg r2]
      rw [e] at h2
      refine ⟨w, c, x, .inr p, 1, rfl, rfl, hT, hP, by omega, by omega, fun c1 hF1 hP1 => ?_⟩
      exact h2 c1 (FC_mono hF1 rfl rfl rfl) (hF1.1 17 rfl) ⟨hP1, by rw [hF1.1 21 rfl]; exact hQ.1⟩
theorem m_X3_readAtom (On : Int → Prop) (dp : Bool) (A : Nat → TP → Nat → PR (List OP)) (lv : Nat) (hlv : 8 ≤ lv) (ih : ∀ l : Launch, mm_Met l yX3_readOpening cX3_readOpening 3 none lv 0 0 (TO On dp A)) (l : Launch) : mm_Met l yX3_readAtom cX3_readAtom 1 none (lv + 1) 0 0 (TH On (fun f x => pAtG x f dp (A f x))) := mm_met (E := e_X3_readAtom On dp A) (cd := kX3_readAtom) (s_X3_readAtom On dp A) (by decide) kX3_readAtom_ok (by decide +kernel) (by rfl) (Or.inl ⟨rfl, rfl⟩) rfl (mm_eok_X3 _) (mm_calls_cons (mm_cbv wi_X3_readWhole (tb3 (i := 203) rfl rfl) (m_X3_readWhole l) (by omega) (by omega) rfl) (mm_calls_cons (mm_cbv wi_X3_readRoot (tb3 (i := 219) rfl rfl) (m_X3_readRoot l) (by omega) (by omega) rfl) (mm_calls_cons (mm_cbv wi_X3_readGauss (tb3 (i := 223) rfl rfl) (m_X3_readGauss l) (by omega) (by omega) rfl) (mm_calls_cons (mm_cbv wi_X3_readJacobi (tb3 (i := 231) rfl rfl) (m_X3_readJacobi l) (by omega) (by omega) rfl) (mm_calls_cons (mm_cbv wi_X3_readKloosterman (tb3 (i := 235) rfl rfl) (m_X3_readKloosterman l) (by omega) (by omega) rfl) (mm_calls_cons (mm_cbv wi_X3_readPeriod (tb3 (i := 239) rfl rfl) (m_X3_readPeriod l) (by omega) (by omega) rfl) (mm_calls_cons (mm_cbv wi_X3_readPlace (tb4 (i := 4) rfl rfl) (m_X3_readPlace l) (by omega) (by omega) rfl) (mm_calls_cons (mm_cbv wi_X3_readOpening (tb4 (i := 8) rfl rfl) (ih l) (by omega) (by omega) rfl) (mm_calls_cons (mm_cbv wi_X3_refuse (tb3 (i := 211) rfl rfl) (m_X3_refuse l) (by omega) (by omega) rfl) (mm_calls_nil))))))))))
