/-! the reference: factors, terms, rows -/
def PG (a : AS) (x : TP) (s : RS) (E : Option (List VL)) (n : Nat) (r : Int) : PR (List OP) → Prop
  | .inl e => PX x s (.inl e) ∧ (s.1 38 = (n : Int) ∨ s.1 38 = (n : Int) + 1)
  | .inr v => PX x s (.inr v.1) ∧ RE (aF a) s (evs a v.2 E) (n + 1) ∧ s.1 38 = (n : Int) + 1 ∧ r = ((8 + n : Nat) : Int)
def TG (O : Nat → Int → Prop) (F : AS → TP → Nat → PR (List OP)) : Tr := fun av h N _ => ∃ (w : FW) (s : RS) (a : AS) (x : TP) (P : PP) (n : Nat) (E : Option (List VL)), av = [mR 1000] ∧ h = hR w s ∧ RW a x s ∧ PX x s P ∧ RE (aF a) s E n ∧ n ≤ 20 ∧ s.1 38 = (n : Int) ∧ (0 ≤ s.1 37 ∧ s.1 37 ≤ 10) ∧ (∀ p, P = .inr p → O n (s.1 37)) ∧ ∀ (s' : RS) (r : Int), FRq s s' → s'.1 37 = s.1 37 → PG a x s' E n r (pL (F a x) P) → N (some (mI r)) (hR w s')
abbrev e_X10_readFactor (O : Nat → Int → Prop) (A : AS → TP → Nat → PR (List OP)) : NE := (ftX10, [(293, (1, 0, 0, false, (0, 10), (TG O A))), (253, (1, 0, 0, false, (0, 10), T_X10_pass)), (296, (2, 0, 0, false, (0, 10), T_X10_readNumber)), (267, (1, 0, 0, false, (0, 10), T_X10_isGoing)), (299, (3, 0, 0, false, (0, 10), T_X10_raiseValue))], ltX10, [], [], false, 1, (0, 0), [], [], [], false)
set_option maxHeartbeats 4000000 in
theorem s_X10_readFactor (O : Nat → Int → Prop) (A : AS → TP → Nat → PR (List OP)) : mm_Spec (e_X10_readFactor O A) kX10_readFactor 3 (TG O (fun a x => pFac x (A a x))) := by
  rintro N X K av h hK ⟨w, s, a, x, P, n, E, rfl, rfl, hW, hP, hE, hn, h38, h37, hO, h2⟩
  have hb := fbase hW.1.1.1
  have ef : pL (pFac x (A a x)) P = pB (pL (A a x) P) (fun p ops => if tTk x p = 94 then pB (pNum x (cLt 21) (tNx x p)) (fun p n => .inr (p, ops ++ [(12, (n : Int), 0, 0)])) else .inr (p, ops)) := pL_pB _ _ _
  rw [ef] at h2
  refine ⟨rfl, hK [] _ _ _ _ _ _ ?_⟩
  refine ⟨w, s, a, x, P, n, E, rfl, rfl, hW, hP, hE, hn, h38, h37, hO, fun s1 r hF h37' hG => ?_⟩
  have hW1 := RW_q hW hF
  cases hr : pL (A a x) P with
  | inl e =>
    rw [hr] at hG h2
    have b1 := hG.1.1
    have b2 := hG.1.2.1
    refine And.intro (fun _ => ?_) (fun q => absurd q (by omega))
    exact h2 s1 r hF h37' hG
  | inr v =>
    rw [hr] at hG h2
    obtain ⟨g1, g2, g3, g4⟩ := hG
    have g0 := g1.1
    subst g4
    refine And.intro (fun q => absurd q (by omega)) (fun _ => ?_)
    conv => whnf
    rw [g1.2.2.2.1]
    have h2 : ∀ (s' : RS) (r : Int), FRq s s' → s'.1 37 = s.1 37 → PG a x s' E n r (if tTk x v.1 = 94 then pB (pNum x (cLt 21) (tNx x v.1)) (fun p n => .inr (p, v.2 ++ [(12, (n : Int), 0, 0)])) else .inr v) → N (some (mI r)) (hR w s') := h2
    refine And.intro (fun q => ?_) (fun q => ?_)
    · have q : ¬ tTk x v.1 = 94 := fun z => q ((rtk_c (by omega)).mpr z)
      rw [if_neg q] at h2
      exact h2 s1 _ hF h37' ⟨g1, g2, g3, rfl⟩
    · have q := (rtk_c (by omega)).mp q
      rw [if_pos q] at h2
      refine ⟨w, s1, x, .inr v.1, rfl, rfl, hW1.2.1, g1, fun s2 hF2 hP2 => ?_⟩
      refine ⟨w, s2, x, _, 20, rfl, rfl, TPR_fr hW1.2.1 hF2 rfl rfl, hP2, ?_⟩
      rw [cLe_lt (m := 20) (k := 21) rfl]
      intro s3 hF3 hP3
      have hF23 : FR F6 [] [] s1 s3 := FR_tr (FR_mono hF2 rfl rfl rfl) hF3 rfl rfl rfl
      have hFq := FRq_of hF23 rfl
      have hE3 := RE_6 g2 hF23 (by omega)
      have h373 : s3.1 37 = s.1 37 := (hF23.1 37 rfl).trans h37'
      have h383 : s3.1 38 = (n : Int) + 1 := (hF23.1 38 rfl).trans g3
      refine ⟨w, s3, rfl, rfl, ?_⟩
      have er : pL (pNum x (cLt 21)) (pNx x (.inr v.1)) = pNum x (cLt 21) (tNx x v.1) := rfl
      rw [er] at hP3 ⊢
      cases hr2 : pNum x (cLt 21) (tNx x v.1) with
      | inl e =>
        rw [hr2] at hP3 h2
        rw [going_bad hP3]
        refine And.intro (fun _ => ?_) (fun q => absurd q (by omega))
        exact h2 s3 _ (FRq_tr hF hFq) h373 ⟨hP3, Or.inr h383⟩
      | inr u =>
        have hu : u.2 < 21 := mm_blt_t (pNum_val (P := .inr (tNx x v.1)) hr2).1
        rw [hr2] at hP3 h2
        cases hE' : evs a v.2 E with
        | none =>
          rw [hE'] at hE3
          rw [going_none hE3]
          refine And.intro (fun _ => ?_) (fun q => absurd q (by omega))
          refine h2 s3 _ (FRq_tr hF hFq) h373 ⟨hP3, ?_, h383, rfl⟩
          rw [evs_app, hE']
          exact hE3
        | some L =>
          rw [hE'] at hE3
          obtain ⟨V, L1, rfl⟩ := len1 hE3
          rw [going_some hE3 hP3.1]
          refine And.intro (fun q => absurd q (by omega)) (fun _ => ?_)
          refine ⟨w, s3, aF a, n, u.2, V, L1, rfl, rfl, (RA_q hW.1 (FRq_tr hF hFq)).2.1, by omega, hn, hE3, fun s4 hF4 hF5 hE4 => ?_⟩
          refine h2 s4 _ (FRq_tr (FRq_tr hF hFq) hF4) ((hF5.1 37 rfl).trans h373) ⟨PX_fr hP3 hF5 rfl, ?_, (hF5.1 38 rfl).trans h383, rfl⟩
          rw [evs_app, hE']
          show RE (aF a) s4 (evO a (12, (u.2 : Int), 0, 0) (V :: L1)) (n + 1)
          rw [evO_pow]
          exact hE4
theorem m_X10_readFactor (O : Nat → Int → Prop) (A : AS → TP → Nat → PR (List OP)) (lv : Nat) (hlv : 8 ≤ lv) (ih : ∀ l : Launch, mm_Met l yX10_readAtom cX10_readAtom 3 (some .int) lv 0 0 (TG O A)) (l : Launch) : mm_Met l yX10_readFactor cX10_readFactor 3 (some .int) (lv + 1) 0 0 (TG O (fun a x => pFac x (A a x))) := mm_met (E := e_X10_readFactor O A) (cd := kX10_readFactor) (s_X10_readFactor O A) (by decide) kX10_readFactor_ok (by decide +kernel) (by rfl) (Or.inr (Or.inl ⟨rfl, rfl⟩)) rfl (mm_eok_X10 _) (mm_calls_cons (mm_cbv wi_X10_readAtom (tb6 (i := 212) rfl rfl) (ih l) (by omega) (by omega) rfl) (mm_calls_cons (mm_cbv wi_X10_pass (tb6 (i := 224) rfl rfl) (m_X10_pass l) (by omega) (by omega) rfl) (mm_calls_cons (mm_cbv wi_X10_readNumber (tb7 (i := 45) rfl rfl) (m_X10_readNumber l) (by omega) (by omega) rfl) (mm_calls_cons (mm_cbv wi_X10_isGoing (tb6 (i := 232) rfl rfl) (m_X10_isGoing l) (by omega) (by omega) rfl) (mm_calls_cons (mm_cbv wi_X10_raiseValue (tb7 (i := 113) rfl rfl) (m_X10_raiseValue l) (by omega) (by omega) rfl) (mm_calls_nil))))))
abbrev e_X10_readTerm (O : Nat → Int → Prop) (A : AS → TP → Nat → PR (List OP)) : NE := (ftX10, [(286, (1, 0, 0, false, (0, 10), (TG O (fun a x => pFac x (A a x))))), (253, (1, 0, 0, false, (0, 10), T_X10_pass)), (267, (1, 0, 0, false, (0, 10), T_X10_isGoing)), (289, (4, 0, 0, false, (0, 10), T_X10_product)), (275, (2, 0, 0, false, (0, 10), T_X10_comes)), (279, (3, 0, 0, false, (0, 10), T_X10_copy))], ltX10, [], [], false, 1, (0, 0), [], [], [], false)
set_option maxHeartbeats 8000000 in
theorem s_X10_readTerm (O O2 : Nat → Int → Prop) (A : AS → TP → Nat → PR (List OP)) (hO2 : ∀ n o, O2 n o → O n o ∧ O (n + 1) o ∧ n ≤ 18) (hM : ∀ a x, MO x (A a x)) : mm_Spec (e_X10_readTerm O A) kX10_readTerm 3 (TG O2 (fun a x => pTm x (A a x))) := by
  rintro N X K av h hK ⟨w, s, a, x, P, n, E, rfl, rfl, hW, hP, hE, hn, h38, h37, hO, h2⟩
  have hb := fbase hW.1.1.1
  have ef : pL (pTm x (A a x)) P = pB (pL (pFac x (A a x)) P) (fun p ops => pTmL x (A a x) 201 p ops) := pL_pB _ _ _
  rw [ef] at h2
  have hlen := hW.2.1.2.1
  -- the end with a fault
  have bad : ∀ (s1 : RS) (e : Nat × Nat) (r : Int) (o : Option MV), FRq s s1 → s1.1 37 = s.1 37 → PX x s1 (.inl e) → (s1.1 38 = (n : Int) ∨ s1.1 38 = (n : Int) + 1) → pB (pL (pFac x (A a x)) P) (fun p ops => pTmL x (A a x) 201 p ops) = .inl e → K 5 [some (mR 1000), some (mI r), o] [] (hR w s1) 0 0 := by
    intro s1 e r o hF h37' hP1 h38' er
    rw [er] at h2
    have b1 := hP1.1
    have b2 := hP1.2.1
    refine hK [] _ _ _ _ _ _ ?_
    refine And.intro (fun _ => ?_) (fun q => absurd q (by omega))
    exact h2 s1 r hF h37' ⟨hP1, h38'⟩
  have loop : O2 n (s.1 37) → ∀ (k p : Nat) (ops : List OP) (s1 : RS) (o : Option MV), p ≤ x.2 → x.2 < p + k → FRq s s1 → s1.1 37 = s.1 37 → PX x s1 (.inr p) → RE (aF a) s1 (evs a ops E) (n + 1) → s1.1 38 = (n : Int) + 1 → pB (pL (pFac x (A a x)) P) (fun p ops => pTmL x (A a x) 201 p ops) = pTmL x (A a x) k p ops → K 5 [some (mR 1000), some (mI ((8 + n : Nat) : Int)), o] [] (hR w s1) 0 0 := by
    intro hO2n k
    obtain ⟨o1, o2, o3⟩ := hO2 _ _ hO2n
    induction k with
    | zero =>
      intro p ops s1 o hp hk
      omega
    | succ k ih =>
      intro p ops s1 o hp hk hF h37' hP1 hE1 h381 er
      have hW1 := RW_q hW hF
      have g0 := hP1.1
      have er2 : pTmL x (A a x) (k + 1) p ops = if tTk x p = 42 then pB (pFac x (A a x) (tNx x p)) (fun p o2 => pTmL x (A a x) k p (ops ++ (o2 ++ [(11, 0, 0, 0)]))) else .inr (p, ops) := rfl
      rw [er2] at er
      refine hK [5, 49] _ _ _ _ _ _ ?_
      refine And.intro (fun q => absurd q (by omega)) (fun _ => ?_)
      conv => whnf
      rw [hP1.2.2.2.1]
      refine And.intro (fun q => ?_) (fun q => ?_)
      · have q : ¬ tTk x p = 42 := fun z => q ((rtk_c (by omega)).mpr z)
        rw [if_neg q] at er
        rw [er] at h2
        exact h2 s1 _ hF h37' ⟨hP1, hE1, h381, rfl⟩
      · have q := (rtk_c (by omega)).mp q
        rw [if_pos q] at er
        have hnx := nx_lt hp (show tTk x p ≠ -1 by omega)
        refine ⟨w, s1, x, .inr p, rfl, rfl, hW1.2.1, hP1, fun s2 hF2 hP2 => ?_⟩
        have hF2' : FR F6 [] [] s1 s2 := FR_mono hF2 rfl rfl rfl
        have hFq2 := FRq_tr hF (FRq_of hF2' rfl)
        have h372 : s2.1 37 = s.1 37 := (hF2.1 37 rfl).trans h37'
        refine ⟨w, s2, a, x, .inr (tNx x p), n + 1, evs a ops E, rfl, rfl, RW_q hW hFq2, hP2, RE_6 hE1 hF2' (by omega), by omega, ?_, by rw [h372]; exact h37, fun _ _ => by rw [h372]; exact o2, fun s3 r hF3 h373 hG => ?_⟩
        · rw [hF2.1 38 rfl, h381]; rfl
        have hFq3 := FRq_tr hFq2 hF3
        have h373 := h373.trans h372
        have hG : PG a x s3 (evs a ops E) (n + 1) r (pFac x (A a x) (tNx x p)) := hG
        refine ⟨w, s3, rfl, rfl, ?_⟩
        cases hr : pFac x (A a x) (tNx x p) with
        | inl e =>
          rw [hr] at hG er
          have h38s := hG.2
          rw [going_bad hG.1]
          refine And.intro (fun _ => ?_) (fun q => absurd q (by omega))
          refine And.intro (rng_of (by omega) (by omega)) ?_
          refine bad (sI s3 38 (s3.1 38 - 1)) e _ _ (FRq_I hFq3 rfl) h373 (PX_fr hG.1 (FR_I (I := [38]) (A := []) (L := []) (FR_rf s3) rfl) rfl) ?_ er
          show s3.1 38 - 1 = _ ∨ s3.1 38 - 1 = _
          omega
        | inr v =>
          rw [hr] at hG er
          obtain ⟨g1, g2, g3, rfl⟩ := hG
          have mv := MO_fac (hM a x) _ v hnx.2 hr
          have er : pB (pL (pFac x (A a x)) P) (fun p ops => pTmL x (A a x) 201 p ops) = pTmL x (A a x) k v.1 (ops ++ (v.2 ++ [(11, 0, 0, 0)])) := er
          cases hE' : evs a v.2 (evs a ops E) with
          | none =>
            rw [hE'] at g2
            rw [going_none g2]
            refine And.intro (fun _ => ?_) (fun q => absurd q (by omega))
            refine And.intro (rng_of (by omega) (by omega)) ?_
            refine ih v.1 _ (sI s3 38 (s3.1 38 - 1)) _ mv.2.2 (by omega) (FRq_I hFq3 rfl) h373 (PX_fr g1 (FR_I (I := [38]) (A := []) (L := []) (FR_rf s3) rfl) rfl) ?_ ?_ er
            · rw [evs_app, evs_app, hE']
              exact RE_fr (RE_none (m := n + 1) g2) rfl rfl rfl (by omega)
            · show s3.1 38 - 1 = _
              omega
          | some L =>
            rw [hE'] at g2
            obtain ⟨V, L1, rfl⟩ := len1 g2
            obtain ⟨g2b, hV⟩ := RE_pop g2
            obtain ⟨U, L2, rfl⟩ := len1 g2b
            obtain ⟨g2c, hU⟩ := RE_pop g2b
            rw [going_some g2 g1.1]
            refine And.intro (fun q => absurd q (by omega)) (fun _ => ?_)
            refine ⟨w, s3, aF a, 32, 8 + n, 8 + (n + 1), rfl, rfl, (RA_q hW.1 hFq3).2.1, by omega, by omega, by omega, fun Lf hL hs => ?_⟩
            have hcg : ∀ t, t < fD (aF a) → mulV (aF a) (fun t => s3.2.2 24 (256 * ((8 + n : Nat) : Int) + t)) (fun t => s3.2.2 24 (256 * ((8 + (n + 1) : Nat) : Int) + t)) t = mulV (aF a) U V t := fun t _ => mulV_congr hU hV t
            have hs2 := slotS_congr hcg hs
            rw [show bi (small (aF a) (mulV (aF a) (fun t => s3.2.2 24 (256 * ((8 + n : Nat) : Int) + t)) (fun t => s3.2.2 24 (256 * ((8 + (n + 1) : Nat) : Int) + t)))) = bi (small (aF a) (mulV (aF a) U V)) from small_congr hcg]
            have hFg := FRq_g (by omega) hL hs2
            have hFg2 : FR [40] [] [18, 24, 25] s3 (s3.1, s3.2.1, Lf) := ⟨fun _ _ => rfl, fun _ _ => rfl, hFg.1.2.2⟩
            suffices fin : ∀ s4 : RS, FRq s3 s4 → FR [40] [] [18, 24, 25] s3 s4 → s4.1 40 = (if small (aF a) (mulV (aF a) U V) then 0 else 1) → s4.2.2 24 = Lf 24 → K 49 [some (mR 1000), some (mI ((8 + n : Nat) : Int)), some (mI ((8 + (n + 1) : Nat) : Int))] [] (hR w s4) 0 0 by
              refine ⟨w, (s3.1, s3.2.1, Lf), _, rfl, rfl, fun q => ?_, fun q => ?_⟩
              · exact fin (sI (s3.1, s3.2.1, Lf) 40 1) (FRq_I hFg rfl) (FR_I hFg2 rfl) (bi_small.1 q) rfl
              · exact fin (s3.1, s3.2.1, Lf) hFg hFg2 (g2.2.2.2.1.trans (bi_small.2 q)) rfl
            intro s4 hF4 hF5 h40 h24
            refine hK [5] _ _ _ _ _ _ ?_
            refine ⟨w, s4, 8 + n, 32, rfl, rfl, by omega, by omega, fun v2 hv2 => ?_⟩
            have hE4 := comes_copy (w := w) (by omega) g2c (hF5.1 39 rfl) h40 (by rw [h24]; exact hs2) (by omega) hv2
            have hF6 := FRq_tr hFq3 (FRq_copy (f := aF a) (V := V) hF4 (show n ≤ 20 by omega) hv2)
            have h384 : (sL s4 24 v2).1 38 = ((n + 1 : Nat) : Int) + 1 := (hF5.1 38 rfl).trans g3
            conv => whnf
            rw [h384]
            refine And.intro (rng_of (by omega) (by omega)) ?_
            refine ih v.1 _ (sI (sL s4 24 v2) 38 (((n + 1 : Nat) : Int) + 1 - 1)) _ mv.2.2 (by omega) (FRq_I hF6 rfl) ((hF5.1 37 rfl).trans h373) (PX_fr (PX_fr g1 hF5 rfl) (FR_I (I := [38]) (A := []) (L := [24]) (FR_L (FR_rf s4) rfl) rfl) rfl) ?_ ?_ er
            · rw [evs_app, evs_app, hE']
              exact RE_fr hE4 rfl rfl rfl (by omega)
            · show ((n + 1 : Nat) : Int) + 1 - 1 = _
              omega
  refine ⟨rfl, hK [5] _ _ _ _ _ _ ?_⟩
  refine ⟨w, s, a, x, P, n, E, rfl, rfl, hW, hP, hE, hn, h38, h37, fun p hp => (hO2 _ _ (hO p hp)).1, fun s1 r hF h37' hG => ?_⟩
  have hG : PG a x s1 E n r (pL (pFac x (A a x)) P) := hG
  cases hr : pL (pFac x (A a x)) P with
  | inl e =>
    rw [hr] at hG
    exact bad s1 e _ _ hF h37' hG.1 hG.2 (by rw [hr]; rfl)
  | inr v =>
    rw [hr] at hG
    obtain ⟨g1, g2, g3, rfl⟩ := hG
    have hp1 : v.1 ≤ x.2 := g1.2.2.2.2.2
    cases P with
    | inl e => cases hr
    | inr p => exact loop (hO p rfl) 201 v.1 v.2 s1 _ hp1 (by omega) hF h37' g1 g2 g3 (by rw [hr]; rfl)
theorem m_X10_readTerm (O O2 : Nat → Int → Prop) (A : AS → TP → Nat → PR (List OP)) (hO2 : ∀ n o, O2 n o → O n o ∧ O (n + 1) o ∧ n ≤ 18) (hM : ∀ a x, MO x (A a x)) (lv : Nat) (hlv : 8 ≤ lv) (ih : ∀ l : Launch, mm_Met l yX10_readFactor cX10_readFactor 3 (some .int) lv 0 0 (TG O (fun a x => pFac x (A a x)))) (l : Launch) : mm_Met l yX10_readTerm cX10_readTerm 3 (some .int) (lv + 1) 0 0 (TG O2 (fun a x => pTm x (A a x))) := mm_met (E := e_X10_readTerm O A ) (cd := kX10_readTerm) (s_X10_readTerm  O O2 A hO2 hM) (by decide) kX10_readTerm_ok (by decide +kernel) (by rfl) (Or.inr (Or.inl ⟨rfl, rfl⟩)) rfl (mm_eok_X10 _) (mm_calls_cons (mm_cbv wi_X10_readFactor (tb6 (i := 208) rfl rfl) (ih l) (by omega) (by omega) rfl) (mm_calls_cons (mm_cbv wi_X10_pass (tb6 (i := 224) rfl rfl) (m_X10_pass l) (by omega) (by omega) rfl) (mm_calls_cons (mm_cbv wi_X10_isGoing (tb6 (i := 232) rfl rfl) (m_X10_isGoing l) (by omega) (by omega) rfl) (mm_calls_cons (mm_cbv wi_X10_product (tb7 (i := 117) rfl rfl) (m_X10_product l) (by omega) (by omega) rfl) (mm_calls_cons (mm_cbv wi_X10_comes (tb7 (i := 14) rfl rfl) (m_X10_comes l) (by omega) (by omega) rfl) (mm_calls_cons (mm_cbv wi_X10_copy (tb7 (i := 30) rfl rfl) (m_X10_copy l) (by omega) (by omega) rfl) (mm_calls_nil)))))))
abbrev e_X10_readRow (O2 : Nat → Int → Prop) (A : AS → TP → Nat → PR (List OP)) : NE := (ftX10, [(263, (1, 0, 0, false, (0, 10), (TG O2 (fun a x => pTm x (A a x))))), (253, (1, 0, 0, false, (0, 10), T_X10_pass)), (267, (1, 0, 0, false, (0, 10), T_X10_isGoing)), (271, (5, 0, 0, false, (0, 10), T_X10_sum)), (275, (2, 0, 0, false, (0, 10), T_X10_comes)), (279, (3, 0, 0, false, (0, 10), T_X10_copy))], ltX10, [], [], false, 1, (0, 0), [], [], [], false)
theorem lcm1 : (-1 : Int64) = -1 := rfl
set_option maxHeartbeats 8000000 in
theorem s_X10_readRow (O2 O3 : Nat → Int → Prop) (A : AS → TP → Nat → PR (List OP)) (hO2 : ∀ n o, O3 n o → O2 n o ∧ O2 (n + 1) o ∧ n ≤ 18) (hM : ∀ a x, MO x (A a x)) : mm_Spec (e_X10_readRow O2 A) kX10_readRow 5 (TG O3 (fun a x => pRw x (A a x))) := by
  rintro N X K av h hK ⟨w, s, a, x, P, n, E, rfl, rfl, hW, hP, hE, hn, h38, h37, hO, h2⟩
  have hb := fbase hW.1.1.1
  have ef : pL (pRw x (A a x)) P = pB (pL (pTm x (A a x)) P) (fun p ops => pRwL x (A a x) 201 p ops) := pL_pB _ _ _
  rw [ef] at h2
  have hlen := hW.2.1.2.1
  have bad : ∀ (s1 : RS) (e : Nat × Nat) (r : Int) (o1 o2 o3 : Option MV), FRq s s1 → s1.1 37 = s.1 37 → PX x s1 (.inl e) → (s1.1 38 = (n : Int) ∨ s1.1 38 = (n : Int) + 1) → pB (pL (pTm x (A a x)) P) (fun p ops => pRwL x (A a x) 201 p ops) = .inl e → K 5 [some (mR 1000), some (mI r), o1, o2, o3] [] (hR w s1) 0 0 := by
    intro s1 e r o1 o2 o3 hF h37' hP1 h38' er
    rw [er] at h2
    have b1 := hP1.1
    have b2 := hP1.2.1
    refine hK [] _ _ _ _ _ _ ?_
    refine And.intro (fun _ => ?_) (fun q => absurd q (by omega))
    exact h2 s1 r hF h37' ⟨hP1, h38'⟩
  have loop : O3 n (s.1 37) → ∀ (k p : Nat) (ops : List OP) (s1 : RS) (m1 m2 m3 : Option MV), p ≤ x.2 → x.2 < p + k → FRq s s1 → s1.1 37 = s.1 37 → PX x s1 (.inr p) → RE (aF a) s1 (evs a ops E) (n + 1) → s1.1 38 = (n : Int) + 1 → pB (pL (pTm x (A a x)) P) (fun p ops => pRwL x (A a x) 201 p ops) = pRwL x (A a x) k p ops → K 5 [some (mR 1000), some (mI ((8 + n : Nat) : Int)), m1, m2, m3] [] (hR w s1) 0 0 := by
    intro hO3n k
    obtain ⟨o1, o2, o3⟩ := hO2 _ _ hO3n
    induction k with
    | zero =>
      intro p ops s1 m1 m2 m3 hp hk
      omega
    | succ k ih =>
      intro p ops s1 m1 m2 m3 hp hk hF h37' hP1 hE1 h381 er
      have hW1 := RW_q hW hF
      have g0 := hP1.1
      have h32 := hP1.2.2.2.1
      have er2 : pRwL x (A a x) (k + 1) p ops = if tTk x p = 43 ∨ tTk x p = 45 then pB (pTm x (A a x) (tNx x p)) (fun p2 o2 => pRwL x (A a x) k p2 (ops ++ (o2 ++ [(if tTk x p = 43 then 9 else 10, 0, 0, 0)]))) else .inr (p, ops) := rfl
      rw [er2] at er
      -- behind the sign
      have go : ∀ (c : Nat) (sg : Int64), (tTk x p = 43 ∨ tTk x p = 45) → (∀ (V U : VL) (L : List VL), evO a (c, 0, 0, 0) (V :: U :: L) = tst (aF a) (fun t => U t + sg * V t) L) → (if tTk x p = 43 then 9 else 10 : Nat) = c → K 46 [some (mR 1000), some (mI ((8 + n : Nat) : Int)), m1, m2, m3] [mL sg] (hR w s1) 0 0 := by
        intro c sg q hc ec
        rw [if_pos q, ec] at er
        have hnx := nx_lt hp (show tTk x p ≠ -1 by omega)
        refine hK [5, 78] _ _ _ _ _ _ ?_
        refine ⟨w, s1, x, .inr p, rfl, rfl, hW1.2.1, hP1, fun s2 hF2 hP2 => ?_⟩
        have hF2' : FR F6 [] [] s1 s2 := FR_mono hF2 rfl rfl rfl
        have hFq2 := FRq_tr hF (FRq_of hF2' rfl)
        have h372 : s2.1 37 = s.1 37 := (hF2.1 37 rfl).trans h37'
        refine ⟨w, s2, a, x, .inr (tNx x p), n + 1, evs a ops E, rfl, rfl, RW_q hW hFq2, hP2, RE_6 hE1 hF2' (by omega), by omega, ?_, by rw [h372]; exact h37, fun _ _ => by rw [h372]; exact o2, fun s3 r hF3 h373 hG => ?_⟩
        · rw [hF2.1 38 rfl, h381]; rfl
        have hFq3 := FRq_tr hFq2 hF3
        have h373 := h373.trans h372
        have hG : PG a x s3 (evs a ops E) (n + 1) r (pTm x (A a x) (tNx x p)) := hG
        refine ⟨w, s3, rfl, rfl, ?_⟩
        cases hr : pTm x (A a x) (tNx x p) with
        | inl e =>
          rw [hr] at hG er
          have h38s := hG.2
          rw [going_bad hG.1]
          refine And.intro (fun _ => ?_) (fun q => absurd q (by omega))
          refine And.intro (rng_of (by omega) (by omega)) ?_
          refine bad (sI s3 38 (s3.1 38 - 1)) e _ _ _ _ (FRq_I hFq3 rfl) h373 (PX_fr hG.1 (FR_I (I := [38]) (A := []) (L := []) (FR_rf s3) rfl) rfl) ?_ er
          show s3.1 38 - 1 = _ ∨ s3.1 38 - 1 = _
          omega
        | inr v =>
          rw [hr] at hG er
          obtain ⟨g1, g2, g3, rfl⟩ := hG
          have mv := MO_tm (hM a x) _ v hnx.2 hr
          have er : pB (pL (pTm x (A a x)) P) (fun p ops => pRwL x (A a x) 201 p ops) = pRwL x (A a x) k v.1 (ops ++ (v.2 ++ [(c, 0, 0, 0)])) := er
          cases hE' : evs a v.2 (evs a ops E) with
          | none =>
            rw [hE'] at g2
            rw [going_none g2]
            refine And.intro (fun _ => ?_) (fun q => absurd q (by omega))
            refine And.intro (rng_of (by omega) (by omega)) ?_
            refine ih v.1 _ (sI s3 38 (s3.1 38 - 1)) _ _ _ mv.2.2 (by omega) (FRq_I hFq3 rfl) h373 (PX_fr g1 (FR_I (I := [38]) (A := []) (L := []) (FR_rf s3) rfl) rfl) ?_ ?_ er
            · rw [evs_app, evs_app, hE']
              exact RE_fr (RE_none (m := n + 1) g2) rfl rfl rfl (by omega)
            · show s3.1 38 - 1 = _
              omega
          | some L =>
            rw [hE'] at g2
            obtain ⟨V, L1, rfl⟩ := len1 g2
            obtain ⟨g2b, hV⟩ := RE_pop g2
            obtain ⟨U, L2, rfl⟩ := len1 g2b
            obtain ⟨g2c, hU⟩ := RE_pop g2b
            rw [going_some g2 g1.1]
            refine And.intro (fun q => absurd q (by omega)) (fun _ => ?_)
            refine ⟨w, s3, aF a, 32, 8 + n, 8 + (n + 1), sg, rfl, rfl, (RA_q hW.1 hFq3).2.1, by omega, by omega, by omega, fun Lf hL hs => ?_⟩
            have hcg : ∀ t, t < fD (aF a) → s3.2.2 24 (256 * ((8 + n : Nat) : Int) + t) + sg * s3.2.2 24 (256 * ((8 + (n + 1) : Nat) : Int) + t) = U t + sg * V t := fun t ht => by rw [hU t ht, hV t ht]
            have hs2 : slotS (aF a) 32 (fun t => U t + sg * V t) (s3.2.2 24) (Lf 24) := slotS_congr hcg hs
            rw [show bi (small (aF a) (fun t => s3.2.2 24 (256 * ((8 + n : Nat) : Int) + t) + sg * s3.2.2 24 (256 * ((8 + (n + 1) : Nat) : Int) + t))) = bi (small (aF a) (fun t => U t + sg * V t)) from small_congr hcg]
            have hFg := FRq_g (by omega) hL hs2
            have hFg2 : FR [40] [] [18, 24, 25] s3 (s3.1, s3.2.1, Lf) := ⟨fun _ _ => rfl, fun _ _ => rfl, hFg.1.2.2⟩
            suffices fin : ∀ s4 : RS, FRq s3 s4 → FR [40] [] [18, 24, 25] s3 s4 → s4.1 40 = (if small (aF a) (fun t => U t + sg * V t) then 0 else 1) → s4.2.2 24 = Lf 24 → K 78 [some (mR 1000), some (mI ((8 + n : Nat) : Int)), some (mL sg), none, some (mI ((8 + (n + 1) : Nat) : Int))] [] (hR w s4) 0 0 by
              refine ⟨w, (s3.1, s3.2.1, Lf), _, rfl, rfl, fun q => ?_, fun q => ?_⟩
              · exact fin (sI (s3.1, s3.2.1, Lf) 40 1) (FRq_I hFg rfl) (FR_I hFg2 rfl) (bi_small.1 q) rfl
              · exact fin (s3.1, s3.2.1, Lf) hFg hFg2 (g2.2.2.2.1.trans (bi_small.2 q)) rfl
            intro s4 hF4 hF5 h40 h24
            refine hK [5] _ _ _ _ _ _ ?_
            refine ⟨w, s4, 8 + n, 32, rfl, rfl, by omega, by omega, fun v2 hv2 => ?_⟩
            have hE4 := comes_copy (w := w) (by omega) g2c (hF5.1 39 rfl) h40 (by rw [h24]; exact hs2) (by omega) hv2
            have hF6 := FRq_tr hFq3 (FRq_copy (f := aF a) (V := V) hF4 (show n ≤ 20 by omega) hv2)
            have h384 : (sL s4 24 v2).1 38 = ((n + 1 : Nat) : Int) + 1 := (hF5.1 38 rfl).trans g3
            conv => whnf
            rw [h384]
            refine And.intro (rng_of (by omega) (by omega)) ?_
            refine ih v.1 _ (sI (sL s4 24 v2) 38 (((n + 1 : Nat) : Int) + 1 - 1)) _ _ _ mv.2.2 (by omega) (FRq_I hF6 rfl) ((hF5.1 37 rfl).trans h373) (PX_fr (PX_fr g1 hF5 rfl) (FR_I (I := [38]) (A := []) (L := [24]) (FR_L (FR_rf s4) rfl) rfl) rfl) ?_ ?_ er
            · rw [evs_app, evs_app, hE']
              show RE (aF a) _ (evO a (c, 0, 0, 0) (V :: U :: L2)) (n + 1)
              rw [hc]
              exact RE_fr hE4 rfl rfl rfl (by omega)
            · show ((n + 1 : Nat) : Int) + 1 - 1 = _
              omega
      refine hK [46] _ _ _ _ _ _ ?_
      refine And.intro (fun q => absurd q (by omega)) (fun _ => ?_)
      conv => whnf
      rw [h32]
      refine And.intro (fun q => ?_) (fun q => ?_)
      · have q := (rtk_c (by omega)).mp q
        refine And.intro (fun z => absurd (show rtk (tTk x p) = 43 from (rtk_c (by omega)).mpr q) (by rw [← h32]; exact z)) (fun _ => ?_)
        exact go 9 1 (Or.inl q) (fun _ _ _ => rfl) (if_pos q)
      · have q : ¬ tTk x p = 43 := fun z => q ((rtk_c (by omega)).mpr z)
        conv => whnf
        rw [h32]
        refine And.intro (fun q2 => ?_) (fun q2 => ?_)
        · have q2 : ¬ tTk x p = 45 := fun z => q2 ((rtk_c (by omega)).mpr z)
          rw [if_neg (by omega)] at er
          rw [er] at h2
          exact h2 s1 _ hF h37' ⟨hP1, hE1, h381, rfl⟩
        · have q2 := (rtk_c (by omega)).mp q2
          refine And.intro (fun _ => ?_) (fun z => absurd ((rtk_c (by omega)).mp (show rtk (tTk x p) = 43 by rw [← h32]; exact z)) q)
          exact go 10 (-1) (Or.inr q2) (fun _ _ _ => rfl) (if_neg q)
  refine ⟨rfl, hK [5] _ _ _ _ _ _ ?_⟩
  refine ⟨w, s, a, x, P, n, E, rfl, rfl, hW, hP, hE, hn, h38, h37, fun p hp => (hO2 _ _ (hO p hp)).1, fun s1 r hF h37' hG => ?_⟩
  have hG : PG a x s1 E n r (pL (pTm x (A a x)) P) := hG
  cases hr : pL (pTm x (A a x)) P with
  | inl e =>
    rw [hr] at hG
    exact bad s1 e _ _ _ _ hF h37' hG.1 hG.2 (by rw [hr]; rfl)
  | inr v =>
    rw [hr] at hG
    obtain ⟨g1, g2, g3, rfl⟩ := hG
    have hp1 : v.1 ≤ x.2 := g1.2.2.2.2.2
    cases P with
    | inl e => cases hr
    | inr p => exact loop (hO p rfl) 201 v.1 v.2 s1 _ _ _ hp1 (by omega) hF h37' g1 g2 g3 (by rw [hr]; rfl)
theorem m_X10_readRow (O2 O3 : Nat → Int → Prop) (A : AS → TP → Nat → PR (List OP)) (hO2 : ∀ n o, O3 n o → O2 n o ∧ O2 (n + 1) o ∧ n ≤ 18) (hM : ∀ a x, MO x (A a x)) (lv : Nat) (hlv : 8 ≤ lv) (ih : ∀ l : Launch, mm_Met l yX10_readTerm cX10_readTerm 3 (some .int) lv 0 0 (TG O2 (fun a x => pTm x (A a x)))) (l : Launch) : mm_Met l yX10_readRow cX10_readRow 5 (some .int) (lv + 1) 0 0 (TG O3 (fun a x => pRw x (A a x))) := mm_met (E := e_X10_readRow O2 A ) (cd := kX10_readRow) (s_X10_readRow  O2 O3 A hO2 hM) (by decide) kX10_readRow_ok (by decide +kernel) (by rfl) (Or.inr (Or.inl ⟨rfl, rfl⟩)) rfl (mm_eok_X10 _) (mm_calls_cons (mm_cbv wi_X10_readTerm (tb6 (i := 204) rfl rfl) (ih l) (by omega) (by omega) rfl) (mm_calls_cons (mm_cbv wi_X10_pass (tb6 (i := 224) rfl rfl) (m_X10_pass l) (by omega) (by omega) rfl) (mm_calls_cons (mm_cbv wi_X10_isGoing (tb6 (i := 232) rfl rfl) (m_X10_isGoing l) (by omega) (by omega) rfl) (mm_calls_cons (mm_cbv wi_X10_sum (tb7 (i := 0) rfl rfl) (m_X10_sum l) (by omega) (by omega) rfl) (mm_calls_cons (mm_cbv wi_X10_comes (tb7 (i := 14) rfl rfl) (m_X10_comes l) (by omega) (by omega) rfl) (mm_calls_cons (mm_cbv wi_X10_copy (tb7 (i := 30) rfl rfl) (m_X10_copy l) (by omega) (by omega) rfl) (mm_calls_nil)))))))
