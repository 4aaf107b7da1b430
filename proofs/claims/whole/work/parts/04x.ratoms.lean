/-! the reference: what atoms say -/
theorem pL_pB {α β : Type} (F : Nat → PR α) (G : Nat → α → PR β) (P : PP) : pL (fun p => pB (F p) G) P = pB (pL F P) G := by
  cases P <;> rfl
theorem cLe_lt {m : Int} {k : Nat} (h : m = (k : Int) - 1) : cLe m = cLt k := by
  funext n
  unfold cLe cLt
  by_cases q : n < k
  · rw [blt_t q, decide_eq_true (by omega)]
  · rw [blt_f q, decide_eq_false (by omega)]
def T_X10_readMoving : Tr := fun av h N _ => ∃ (w : FW) (s : RS) (f : Nat) (x : TP) (P : PP), av = [mR 1000] ∧ h = hR w s ∧ RQ f s ∧ TPR x s ∧ PX x s P ∧ ∀ s' : RS, FR F6 [] [] s s' → PX x s' (pSt (pL (pNum x (cMv f)) P)) → N (some (mI (pVl 0 (pL (pNum x (cMv f)) P) : Nat))) (hR w s')
abbrev e_X10_readMoving : NE := (ftX10, [(209, (2, 0, 0, false, (0, 10), T_X10_isMoving)), (250, (2, 0, 0, false, (0, 10), T_X10_wrong)), (296, (2, 0, 0, false, (0, 10), T_X10_readNumber))], ltX10, [], [], false, 1, (0, 0), [], [], [], false)
theorem s_X10_readMoving : mm_Spec e_X10_readMoving kX10_readMoving 1 T_X10_readMoving := by
  rintro N X K av h hK ⟨w, s, f, x, P, rfl, rfl, hQ, hT, hP, h2⟩
  have hb := fbase hQ.1
  have fin : ∀ (s1 : RS) (P1 : PP), FR F6 [] [] s s1 → PX x s1 P1 → pL (pNum x (cLe 9999)) P1 = pL (pNum x (cMv f)) P → K 32 [some (mR 1000)] [] (hR w s1) 0 0 := by
    intro s1 P1 hF hP1 e
    rw [← e] at h2
    refine hK [] _ _ _ _ _ _ ?_
    exact ⟨w, s1, x, P1, 9999, rfl, rfl, TPR_fr hT hF rfl rfl, hP1, fun s' hF2 hk => h2 s' (FR_tr hF hF2 rfl rfl rfl) hk⟩
  refine ⟨rfl, hK [32] _ _ _ _ _ _ ?_⟩
  cases P with
  | inl e =>
    have p1 := hP.1
    have p2 := hP.2.1
    refine And.intro (fun _ => ?_) (fun q => absurd q (by omega))
    exact fin s (.inl e) (FR_rf s) hP rfl
  | inr p =>
    have p1 := hP.1
    have hr := tTk_rng hT p
    refine And.intro (fun q => absurd q (by omega)) (fun _ => ?_)
    conv => whnf
    rw [hP.2.2.2.1]
    refine And.intro (fun q => ?_) (fun q => ?_)
    · have q : ¬ tTk x p = -2 := fun z => q ((rtk_n hr.1).mpr z)
      refine fin s (.inr p) (FR_rf s) hP ?_
      show pNum x (cLe 9999) p = pNum x (cMv f) p
      unfold pNum
      rw [if_neg q, if_neg q]
    · have q := (rtk_n hr.1).mp q
      have hnm := hP.2.2.2.2.1 q
      have hnl := tNm_le x p
      refine ⟨w, s, (tNm x p : Nat), fN f, by show [mR 1000, mI (s.1 33)] = _; rw [hnm], rfl, rng_nat (by omega), hQ.2.1, by omega, by omega, ?_⟩
      refine And.intro (fun q2 => ?_) (fun q2 => ?_)
      · have q2 := bi_c1 q2
        refine fin s (.inr p) (FR_rf s) hP ?_
        show pNum x (cLe 9999) p = pNum x (cMv f) p
        unfold pNum
        rw [if_pos q, if_pos q, show cLe 9999 (tNm x p) = true from decide_eq_true (by omega), show cMv f (tNm x p) = true from decide_eq_true q2]
      · have q2 := bi_c0 q2
        refine ⟨w, s, 2, rfl, rfl, fun z => absurd p1 z, fun _ => ?_⟩
        refine fin _ (.inl (2, tSt x p)) (FR_I (FR_I (FR_rf s) rfl) rfl) (PX_wrong (k := 2) hT hP (by omega)) ?_
        show _ = pNum x (cMv f) p
        unfold pNum
        rw [if_pos q, show cMv f (tNm x p) = false from decide_eq_false q2]
        rfl
theorem m_X10_readMoving (l : Launch) : mm_Met l yX10_readMoving cX10_readMoving 1 (some .int) 4 0 0 T_X10_readMoving := mm_met (E := e_X10_readMoving) (cd := kX10_readMoving) s_X10_readMoving (by decide) kX10_readMoving_ok (by decide +kernel) (by decide +kernel) (Or.inr (Or.inl ⟨rfl, rfl⟩)) rfl (mm_eok_X10 _) (mm_calls_cons (mm_cbv wi_X10_isMoving (tb7 (i := 38) rfl rfl) (m_X10_isMoving l) (by decide) (by decide) rfl) (mm_calls_cons (mm_cbv wi_X10_wrong (tb6 (i := 220) rfl rfl) (m_X10_wrong l) (by decide) (by decide) rfl) (mm_calls_cons (mm_cbv wi_X10_readNumber (tb7 (i := 45) rfl rfl) (m_X10_readNumber l) (by decide) (by decide) rfl) (mm_calls_nil))))
def T_X10_readElement : Tr := fun av h N _ => ∃ (w : FW) (s : RS) (f : Nat) (x : TP) (P : PP), av = [mR 1000] ∧ h = hR w s ∧ RT f s ∧ TPR x s ∧ PX x s P ∧ ∀ s' : RS, FR F6 [] [] s s' → PX x s' (pSt (pL (pNum x (cLt (fQ f))) P)) → N (some (mI (pVl 0 (pL (pNum x (cLt (fQ f))) P) : Nat))) (hR w s')
abbrev e_X10_readElement : NE := (ftX10, [(296, (2, 0, 0, false, (0, 10), T_X10_readNumber))], ltX10, [], [], false, 1, (0, 0), [], [], [], false)
theorem s_X10_readElement : mm_Spec e_X10_readElement kX10_readElement 1 T_X10_readElement := by
  rintro N X K av h hK ⟨w, s, f, x, P, rfl, rfl, hT0, hT, hP, h2⟩
  have hb := fbase hT0.1
  refine ⟨rfl, hK [] _ _ _ _ _ _ ?_⟩
  conv => whnf
  rw [hT0.2.2.2.1]
  refine And.intro (rng_of (by omega) (by omega)) ?_
  rw [← cLe_lt (m := (fQ f : Int) - 1) rfl] at h2
  exact ⟨w, s, x, P, _, rfl, rfl, hT, hP, h2⟩
theorem m_X10_readElement (l : Launch) : mm_Met l yX10_readElement cX10_readElement 1 (some .int) 4 0 0 T_X10_readElement := mm_met (E := e_X10_readElement) (cd := kX10_readElement) s_X10_readElement (by decide) kX10_readElement_ok (by decide +kernel) (by decide +kernel) (Or.inr (Or.inl ⟨rfl, rfl⟩)) rfl (mm_eok_X10 _) (mm_calls_cons (mm_cbv wi_X10_readNumber (tb7 (i := 45) rfl rfl) (m_X10_readNumber l) (by decide) (by decide) rfl) (mm_calls_nil))
def T_X10_readCharacter : Tr := fun av h N _ => ∃ (w : FW) (s : RS) (f : Nat) (x : TP) (P : PP), av = [mR 1000] ∧ h = hR w s ∧ RT f s ∧ TPR x s ∧ PX x s P ∧ ∀ s' : RS, FR F6 [] [] s s' → PX x s' (pSt (pL (pNum x (cLt (fQ f - 1))) P)) → N (some (mI (pVl 0 (pL (pNum x (cLt (fQ f - 1))) P) : Nat))) (hR w s')
abbrev e_X10_readCharacter : NE := (ftX10, [(296, (2, 0, 0, false, (0, 10), T_X10_readNumber))], ltX10, [], [], false, 1, (0, 0), [], [], [], false)
theorem s_X10_readCharacter : mm_Spec e_X10_readCharacter kX10_readCharacter 1 T_X10_readCharacter := by
  rintro N X K av h hK ⟨w, s, f, x, P, rfl, rfl, hT0, hT, hP, h2⟩
  have hb := fbase hT0.1
  refine ⟨rfl, hK [] _ _ _ _ _ _ ?_⟩
  conv => whnf
  rw [hT0.2.2.2.1]
  refine And.intro (rng_of (by omega) (by omega)) ?_
  rw [← cLe_lt (m := (fQ f : Int) - 2) (k := fQ f - 1) (by omega)] at h2
  exact ⟨w, s, x, P, _, rfl, rfl, hT, hP, h2⟩
theorem m_X10_readCharacter (l : Launch) : mm_Met l yX10_readCharacter cX10_readCharacter 1 (some .int) 4 0 0 T_X10_readCharacter := mm_met (E := e_X10_readCharacter) (cd := kX10_readCharacter) s_X10_readCharacter (by decide) kX10_readCharacter_ok (by decide +kernel) (by decide +kernel) (Or.inr (Or.inl ⟨rfl, rfl⟩)) rfl (mm_eok_X10 _) (mm_calls_cons (mm_cbv wi_X10_readNumber (tb7 (i := 45) rfl rfl) (m_X10_readNumber l) (by decide) (by decide) rfl) (mm_calls_nil))
def RW (a : AS) (x : TP) (s : RS) : Prop := RA (aF a) s ∧ TPR x s ∧ (∀ i t : Nat, i < 8 → t < fD (aF a) → (s.2.2 24 (256 * (i : Int) + t) = vL (aP a i) t)) ∧ ∀ i t : Nat, i < 8 → fD (aF a) ≤ t → t < 256 → s.2.2 24 (256 * (i : Int) + t) = 0
theorem RW_q {a : AS} {x : TP} {s s' : RS} (h : RW a x s) (hF : FRq s s') : RW a x s' := by
  have hb := fbase h.1.1.1
  exact ⟨RA_q h.1 hF, TPR_q h.2.1 hF, fun i t hi ht => (hF.2 _ (by omega)).trans (h.2.2.1 i t hi ht), fun i t hi ht ht2 => (hF.2 _ (by omega)).trans (h.2.2.2 i t hi ht ht2)⟩
def PO (a : AS) (x : TP) (s : RS) (E : Option (List VL)) (n : Nat) : PR (List OP) → Prop
  | .inl e => PX x s (.inl e)
  | .inr v => PX x s (.inr v.1) ∧ RE (aF a) s (evs a v.2 E) (n + 1)
/-- what an atom's reader does -/
def TA (F : AS → TP → Nat → PR (List OP)) : Tr := fun av h N _ => ∃ (w : FW) (s : RS) (a : AS) (x : TP) (P : PP) (n : Nat) (E : Option (List VL)), av = [mR 1000, mI ((8 + n : Nat) : Int)] ∧ h = hR w s ∧ RW a x s ∧ PX x s P ∧ RE (aF a) s E n ∧ n ≤ 20 ∧ ∀ s' : RS, FRq s s' → s'.1 37 = s.1 37 → s'.1 38 = s.1 38 → PO a x s' E n (pL (F a x) P) → N none (hR w s')
theorem RE_6 {f n : Nat} {E : Option (List VL)} {s s' : RS} (h : RE f s E n) (hF : FR F6 [] [] s s') (hf : fD f ≤ 256) : RE f s' E n := RE_fr h (hF.1 39 rfl) (hF.1 40 rfl) (hF.2.2 24 rfl) hf
abbrev pRoot (a : AS) (x : TP) : Nat → PR (List OP) := fun p => pB (pNum x (cLt (fN (aF a))) p) (fun p v => .inr (p, [(1, (v : Int), 0, 0)]))
theorem pNum_val {x : TP} {c : Nat → Bool} {P : PP} {v : Nat × Nat} (h : pL (pNum x c) P = .inr v) : c v.2 = true ∧ v.2 ≤ 10000 := by
  cases P with
  | inl e => cases h
  | inr p =>
    have h : pNum x c p = .inr v := h
    unfold pNum at h
    split at h
    · split at h
      · rename_i hc
        cases h
        exact ⟨hc, tNm_le x p⟩
      · cases h
    · cases h
abbrev T_X10_readRoot : Tr := TA pRoot
abbrev e_X10_readRoot : NE := (ftX10, [(296, (2, 0, 0, false, (0, 10), T_X10_readNumber)), (267, (1, 0, 0, false, (0, 10), T_X10_isGoing)), (191, (1, 0, 0, false, (0, 10), T_X10_forget)), (197, (3, 0, 0, false, (0, 10), T_X10_counts)), (194, (2, 0, 0, false, (0, 10), T_X10_take)), (275, (2, 0, 0, false, (0, 10), T_X10_comes))], ltX10, [], [], false, 0, (0, 0), [], [], [], false)
theorem s_X10_readRoot : mm_Spec e_X10_readRoot kX10_readRoot 3 T_X10_readRoot := by
  rintro N X K av h hK ⟨w, s, a, x, P, n, E, rfl, rfl, hW, hP, hE, hn, h2⟩
  have hb := fbase hW.1.1.1
  have hQ := hW.1.2.1
  rw [pL_pB] at h2
  refine ⟨rfl, hK [] _ _ _ _ _ _ ?_⟩
  conv => whnf
  rw [hQ.2.1]
  refine And.intro (rng_of (by omega) (by omega)) ?_
  refine ⟨w, s, x, P, _, rfl, rfl, hW.2.1, hP, ?_⟩
  rw [cLe_lt (m := (fN (aF a) : Int) - 1) rfl]
  intro s1 hF hP1
  have hE1 := RE_6 hE hF (by omega)
  have hFq := FRq_of hF rfl
  refine ⟨w, s1, rfl, rfl, ?_⟩
  cases hr : pL (pNum x (cLt (fN (aF a)))) P with
  | inl e =>
    rw [hr] at hP1 h2
    rw [going_bad hP1]
    refine And.intro (fun q => absurd q (by omega)) (fun _ => ?_)
    exact h2 s1 hFq (hF.1 37 rfl) (hF.1 38 rfl) hP1
  | inr v =>
    have hv := pNum_val hr
    rw [hr] at hP1 h2
    cases E with
    | none =>
      rw [going_none hE1]
      refine And.intro (fun q => absurd q (by omega)) (fun _ => ?_)
      exact h2 s1 hFq (hF.1 37 rfl) (hF.1 38 rfl) ⟨hP1, hE1⟩
    | some L =>
      have hvn : v.2 < fN (aF a) := mm_blt_t hv.1
      have hQ1 := RQ_fr hQ hFq.1 rfl rfl rfl
      rw [going_some hE1 hP1.1]
      refine And.intro (fun _ => ?_) (fun q => absurd q (by omega))
      refine ⟨w, s1, rfl, rfl, fun c hc => ?_⟩
      refine ⟨w, sL s1 25 c, v.2, fN (aF a), 1, rfl, rfl, by omega, hQ1.2.1, by omega, by omega, ?_⟩
      refine ⟨w, _, aF a, 8 + n, rfl, rfl, hQ1, by omega, fun r v2 hv2 => ?_⟩
      have hcv : ∀ t, t < fD (aF a) → cW (aF a) (sL (sL s1 25 c) 25 (mm_updL ((sL s1 25 c).2.2 25) ((v.2 % fN (aF a) : Nat) : Int) ((sL s1 25 c).2.2 25 ((v.2 % fN (aF a) : Nat) : Int) + 1))) t = rho (aF a) v.2 t := fun t ht => by
        have h1 := cV_upd' (f := aF a) (t := t) (i := v.2 % fN (aF a)) (n := fN (aF a)) (c := c) (b := 1) (Nat.mod_lt _ (by omega))
        rw [cV_zero (c := fun e => c (e : Int)) (fun e he => hc e (by omega)), Nat.mod_eq_of_lt hvn] at h1
        rw [Nat.mod_eq_of_lt hvn]
        refine h1.trans ?_
        simp
      rw [show bi (small (aF a) (cW (aF a) (sL (sL s1 25 c) 25 (mm_updL ((sL s1 25 c).2.2 25) ((v.2 % fN (aF a) : Nat) : Int) ((sL s1 25 c).2.2 25 ((v.2 % fN (aF a) : Nat) : Int) + 1))))) = bi (small (aF a) (fun t => rho (aF a) v.2 t)) from small_congr hcv]
      have hsl : slotS (aF a) (8 + n) (fun t => rho (aF a) v.2 t) (s1.2.2 24) v2 := slotS_congr hcv hv2
      refine comes_of (s := s1) (Lf := fu (fu (fu (fu s1.2.2 25 c) 25 (mm_updL c ((v.2 % fN (aF a) : Nat) : Int) (c ((v.2 % fN (aF a) : Nat) : Int) + 1))) 18 r) 24 v2) (by omega) hE1 hsl (fun k q1 q2 q3 => ?_) (fun s' hF2 hF3 hE2 => ?_)
      · rw [fu_ne q2, fu_ne q1, fu_ne q3, fu_ne q3]
      · refine h2 s' (FRq_tr hFq hF2) ((hF3.1 37 rfl).trans (hF.1 37 rfl)) ((hF3.1 38 rfl).trans (hF.1 38 rfl)) ⟨PX_fr hP1 hF3 rfl, ?_⟩
        exact hE2
theorem m_X10_readRoot (l : Launch) : mm_Met l yX10_readRoot cX10_readRoot 3 none 4 0 0 T_X10_readRoot := mm_met (E := e_X10_readRoot) (cd := kX10_readRoot) s_X10_readRoot (by decide) kX10_readRoot_ok (by decide +kernel) (by decide +kernel) (Or.inl ⟨rfl, rfl⟩) rfl (mm_eok_X10 _) (mm_calls_cons (mm_cbv wi_X10_readNumber (tb7 (i := 45) rfl rfl) (m_X10_readNumber l) (by decide) (by decide) rfl) (mm_calls_cons (mm_cbv wi_X10_isGoing (tb6 (i := 232) rfl rfl) (m_X10_isGoing l) (by decide) (by decide) rfl) (mm_calls_cons (mm_cbv wi_X10_forget (tb7 (i := 4) rfl rfl) (m_X10_forget l) (by decide) (by decide) rfl) (mm_calls_cons (mm_cbv wi_X10_counts (tb7 (i := 26) rfl rfl) (m_X10_counts l) (by decide) (by decide) rfl) (mm_calls_cons (mm_cbv wi_X10_take (tb7 (i := 8) rfl rfl) (m_X10_take l) (by decide) (by decide) rfl) (mm_calls_cons (mm_cbv wi_X10_comes (tb7 (i := 14) rfl rfl) (m_X10_comes l) (by decide) (by decide) rfl) (mm_calls_nil)))))))
abbrev pPlc (_ : AS) (x : TP) : Nat → PR (List OP) := fun p => pB (pNum x (cLt 8) p) (fun p v => .inr (p, [(6, (v : Int), 0, 0)]))
abbrev T_X10_readPlace : Tr := TA pPlc
abbrev e_X10_readPlace : NE := (ftX10, [(296, (2, 0, 0, false, (0, 10), T_X10_readNumber)), (267, (1, 0, 0, false, (0, 10), T_X10_isGoing)), (279, (3, 0, 0, false, (0, 10), T_X10_copy))], ltX10, [], [], false, 0, (0, 0), [], [], [], false)
theorem s_X10_readPlace : mm_Spec e_X10_readPlace kX10_readPlace 3 T_X10_readPlace := by
  rintro N X K av h hK ⟨w, s, a, x, P, n, E, rfl, rfl, hW, hP, hE, hn, h2⟩
  have hb := fbase hW.1.1.1
  rw [pL_pB] at h2
  refine ⟨rfl, hK [] _ _ _ _ _ _ ?_⟩
  refine ⟨w, s, x, P, 7, rfl, rfl, hW.2.1, hP, ?_⟩
  rw [cLe_lt (m := 7) (k := 8) rfl]
  intro s1 hF hP1
  have hE1 := RE_6 hE hF (by omega)
  have hFq := FRq_of hF rfl
  refine ⟨w, s1, rfl, rfl, ?_⟩
  cases hr : pL (pNum x (cLt 8)) P with
  | inl e =>
    rw [hr] at hP1 h2
    rw [going_bad hP1]
    refine And.intro (fun _ => ?_) (fun q => absurd q (by omega))
    exact h2 s1 hFq (hF.1 37 rfl) (hF.1 38 rfl) hP1
  | inr v =>
    have hv := pNum_val hr
    rw [hr] at hP1 h2
    cases E with
    | none =>
      rw [going_none hE1]
      refine And.intro (fun _ => ?_) (fun q => absurd q (by omega))
      exact h2 s1 hFq (hF.1 37 rfl) (hF.1 38 rfl) ⟨hP1, hE1⟩
    | some L =>
      have hvn : v.2 < 8 := mm_blt_t hv.1
      have hW1 := RW_q hW hFq
      rw [going_some hE1 hP1.1]
      refine And.intro (fun q => absurd q (by omega)) (fun _ => ?_)
      refine ⟨w, s1, 8 + n, v.2, rfl, rfl, by omega, by omega, fun v2 hv2 => ?_⟩
      refine h2 (sL s1 24 v2) ⟨FR_L hFq.1 rfl, fun i hi => ?_⟩ (hF.1 37 rfl) (hF.1 38 rfl) ⟨PX_fr hP1 (FR_L (I := []) (A := []) (L := [24]) (FR_rf s1) rfl) rfl, ?_⟩
      · show v2 i = _
        rw [hv2, if_neg (by omega)]
        exact hFq.2 i hi
      · obtain ⟨a1, a2, a3, a4, a5, a6⟩ := hE1
        refine ⟨a1, a2, a3, a4, by simp [a5], ?_, ?_, RSt_low (s := s1) (by omega) (fun i hi => ?_) a6⟩
        · rw [a5]
          intro t ht
          show v2 _ = _
          rw [hv2, if_pos (by omega), show 256 * ((8 + n : Nat) : Int) + (t : Int) - 256 * ((8 + n : Nat) : Int) = (t : Int) by omega]
          exact hW1.2.2.1 v.2 t hvn ht
        · rw [a5]
          intro t ht ht2
          show v2 _ = _
          rw [hv2, if_pos (by omega), show 256 * ((8 + n : Nat) : Int) + (t : Int) - 256 * ((8 + n : Nat) : Int) = (t : Int) by omega]
          exact hW1.2.2.2 v.2 t hvn ht ht2
        · rw [a5] at hi
          show v2 i = _
          rw [hv2, if_neg (by omega)]
theorem m_X10_readPlace (l : Launch) : mm_Met l yX10_readPlace cX10_readPlace 3 none 4 0 0 T_X10_readPlace := mm_met (E := e_X10_readPlace) (cd := kX10_readPlace) s_X10_readPlace (by decide) kX10_readPlace_ok (by decide +kernel) (by decide +kernel) (Or.inl ⟨rfl, rfl⟩) rfl (mm_eok_X10 _) (mm_calls_cons (mm_cbv wi_X10_readNumber (tb7 (i := 45) rfl rfl) (m_X10_readNumber l) (by decide) (by decide) rfl) (mm_calls_cons (mm_cbv wi_X10_isGoing (tb6 (i := 232) rfl rfl) (m_X10_isGoing l) (by decide) (by decide) rfl) (mm_calls_cons (mm_cbv wi_X10_copy (tb7 (i := 30) rfl rfl) (m_X10_copy l) (by decide) (by decide) rfl) (mm_calls_nil))))
