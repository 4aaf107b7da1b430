/-! the component's reader: tokens -/
def TPc (x : TP) (c : CS) : Prop := c.1 15 = (x.2 : Nat) ∧ x.2 ≤ 200 ∧ ∀ i : Nat, i < x.2 → c.2.1 17 (i : Int) = x.1 i ∧ 0 ≤ x.1 i ∧ x.1 i ≤ 255
theorem TPc_fr {x : TP} {I A L : List Nat} {c c' : CS} (h : TPc x c) (hF : FC I A L c c') (h1 : mm_mem 15 I = false) (h2 : mm_mem 17 A = false) : TPc x c' := ⟨(hF.1 15 h1).trans h.1, h.2.1, by rw [hF.2.1 17 h2]; exact h.2.2⟩
def TKc (x : TP) (c : CS) (p : Nat) : Prop := c.1 16 = (tNx x p : Nat) ∧ c.1 19 = (tSt x p : Nat) ∧ c.1 18 = tTk x p ∧ c.1 20 = (tNm x p : Nat) ∧ p ≤ x.2
def T_X3_isFigure : Tr := fun av h N _ => ∃ c : Int, av = [mI c] ∧ N (some (mI (ind (isFg c) : Nat))) h
abbrev e_X3_isFigure : NE := (ftX3, [], ltX3, [], [], false, 2, (0, 0), [], [], [], true)
theorem s_X3_isFigure : mm_Spec e_X3_isFigure kX3_isFigure 1 T_X3_isFigure := by
  rintro N X K av h hK ⟨c, rfl, h2⟩
  refine ⟨rfl, hK [] _ _ _ _ _ _ ?_⟩
  refine And.intro (fun q => ?_) (fun q => ?_)
  · rw [ind_f (show isFg c = false from decide_eq_false (by omega))] at h2
    exact And.intro (Or.inl rfl) h2
  · refine And.intro (fun q2 => ?_) (fun q2 => ?_)
    · rw [ind_f (show isFg c = false from decide_eq_false (by omega))] at h2
      exact And.intro (Or.inl rfl) h2
    · rw [ind_t (show isFg c = true from decide_eq_true (by omega))] at h2
      exact And.intro (Or.inr rfl) h2
theorem m_X3_isFigure (l : Launch) : mm_Met l yX3_isFigure cX3_isFigure 1 (some .boolean) 0 0 0 T_X3_isFigure := mm_met (E := e_X3_isFigure) (cd := kX3_isFigure) s_X3_isFigure (by decide) kX3_isFigure_ok (by decide +kernel) (by decide +kernel) (Or.inr (Or.inr (Or.inl ⟨rfl, rfl⟩))) rfl (mm_eok_X3 _) (mm_calls_nil)
def T_X3_advance : Tr := fun av h N _ => ∃ (w : CW) (c : CS) (x : TP) (q : Nat), av = [mR 25] ∧ h = hC w c ∧ TPc x c ∧ c.1 16 = (q : Nat) ∧ q ≤ x.2 ∧ ∀ c' : CS, FC [16, 18, 19, 20] [] [] c c' → TKc x c' q → N none (hC w c')
abbrev e_X3_advance : NE := (ftX3, [(133, (1, 0, 0, false, (1, 0), T_X3_isFigure)), (40, (2, 0, 0, false, (1, 0), T_J9_min_7cf53))], ltX3, [], [], false, 0, (0, 0), [], [], [], true)
set_option maxHeartbeats 8000000 in
theorem s_X3_advance : mm_Spec e_X3_advance kX3_advance 1 T_X3_advance := by
  rintro N X K av h hK ⟨w, c, x, q, rfl, rfl, hT, h16, hq, h2⟩
  have hlen := hT.2.1
  -- the figures
  have figs : ∀ (n i a : Nat) (c' : CS), i + n = x.2 → tSt x q ≤ i → a ≤ 10000 → FC [16, 18, 19, 20] [] [] c c' → c'.1 16 = (i : Nat) → c'.1 19 = (tSt x q : Nat) → c'.1 20 = (a : Nat) → nuN x.1 n i a = nuN x.1 (x.2 - tSt x q) (tSt x q) 0 → K 65 [some (mR 25)] [] (hC w c') 0 0 := by
    -- behind the figures
    have fin : ∀ (i a : Nat) (c' : CS), tSt x q ≤ i → i ≤ x.2 → FC [16, 18, 19, 20] [] [] c c' → c'.1 16 = (i : Nat) → c'.1 19 = (tSt x q : Nat) → c'.1 20 = (a : Nat) → (i, a) = nuN x.1 (x.2 - tSt x q) (tSt x q) 0 → K 134 [some (mR 25)] [] (hC w c') 0 0 := by
      intro i a c' hi hi2 hF g16 g19 g20 he
      have hT' := TPc_fr hT hF rfl rfl
      refine hK [] _ _ _ _ _ _ ?_
      conv => whnf
      rw [g16, g19]
      refine And.intro (fun z => ?_) (fun z => ?_)
      · have ei : i = tSt x q := by omega
        have ei' := ei
        conv => whnf
        rw [g16, hT'.1]
        refine And.intro (fun z2 => ?_) (fun z2 => ?_)
        · have hst : ¬ tSt x q < x.2 := by omega
          refine h2 (kI c' 18 (-1)) (FC_I hF rfl) ⟨?_, g19, ?_, ?_, hq⟩
          · show c'.1 16 = _
            unfold tNx
            rw [if_neg hst, g16, ei]
          · show (-1 : Int) = _
            unfold tTk
            rw [if_neg hst]
          · show c'.1 20 = _
            unfold tNm
            rw [if_neg hst, g20]
            have : x.2 - tSt x q = 0 := by omega
            rw [this] at he
            have he : (i, a) = (tSt x q, 0) := he
            rw [(Prod.mk.inj he).2]
        · have hst : tSt x q < x.2 := by omega
          have hnf : isFg (x.1 (tSt x q)) = false := by
            cases hz : isFg (x.1 (tSt x q)) with
            | false => rfl
            | true =>
              obtain ⟨k, hk⟩ : ∃ k, x.2 - tSt x q = k + 1 := ⟨x.2 - tSt x q - 1, by omega⟩
              rw [hk] at he
              unfold nuN at he
              rw [hz] at he
              have := (nuN_le x.1 k (tSt x q + 1) (min (0 * 10 + (x.1 (tSt x q) - 48).toNat) 10000)).1
              have h5 := congrArg Prod.fst he
              have h5 : i = (nuN x.1 k (tSt x q + 1) (min (0 * 10 + (x.1 (tSt x q) - 48).toNat) 10000)).1 := h5
              omega
          have ea : a = 0 := by
            obtain ⟨k, hk⟩ : ∃ k, x.2 - tSt x q = k + 1 := ⟨x.2 - tSt x q - 1, by omega⟩
            rw [hk] at he
            unfold nuN at he
            rw [hnf] at he
            exact (Prod.mk.inj he).2
          conv => whnf
          rw [g16]
          refine And.intro (by omega) ?_
          conv => whnf
          rw [g16]
          refine And.intro (rng_of (by omega) (by omega)) ?_
          refine h2 (kI (kI c' 18 (c'.2.1 17 (i : Int))) 16 ((i : Int) + 1)) (FC_I (FC_I hF rfl) rfl) ⟨?_, g19, ?_, ?_, hq⟩
          · show (i : Int) + 1 = _
            unfold tNx
            rw [if_pos hst, hnf, ei]
            rfl
          · show c'.2.1 17 (i : Int) = _
            unfold tTk
            rw [if_pos hst, hnf, (hT'.2.2 i (by omega)).1, ei]
          · show c'.1 20 = _
            unfold tNm
            rw [if_pos hst, ← he]
            exact g20
      · have hst : tSt x q < x.2 := by omega
        have hfg : isFg (x.1 (tSt x q)) = true := by
          cases hz : isFg (x.1 (tSt x q)) with
          | true => rfl
          | false =>
            obtain ⟨k, hk⟩ : ∃ k, x.2 - tSt x q = k + 1 := ⟨x.2 - tSt x q - 1, by omega⟩
            rw [hk] at he
            unfold nuN at he
            rw [hz] at he
            have := (Prod.mk.inj he).1
            omega
        refine h2 (kI c' 18 (-2)) (FC_I hF rfl) ⟨?_, g19, ?_, ?_, hq⟩
        · show c'.1 16 = _
          unfold tNx
          rw [if_pos hst, hfg, ← he]
          exact g16
        · show (-2 : Int) = _
          unfold tTk
          rw [if_pos hst, hfg]
        · show c'.1 20 = _
          unfold tNm
          rw [if_pos hst, ← he]
          exact g20
    intro n
    induction n with
    | zero =>
      intro i a c' hi hst ha hF g16 g19 g20 he
      have hT' := TPc_fr hT hF rfl rfl
      refine hK [134] _ _ _ _ _ _ ?_
      conv => whnf
      rw [g16, hT'.1]
      refine And.intro (fun _ => ?_) (fun q => absurd q (by omega))
      exact fin i a c' hst (by omega) hF g16 g19 g20 he
    | succ n ih =>
      intro i a c' hi hst ha hF g16 g19 g20 he
      have hT' := TPc_fr hT hF rfl rfl
      obtain ⟨t1, t2, t3⟩ := hT'.2.2 i (by omega)
      refine hK [65, 134] _ _ _ _ _ _ ?_
      conv => whnf
      rw [g16, hT'.1]
      refine And.intro (fun q => absurd q (by omega)) (fun _ => ?_)
      conv => whnf
      rw [g16]
      refine And.intro (by omega) ?_
      refine ⟨c'.2.1 17 (i : Int), rfl, ?_⟩
      rw [t1]
      refine And.intro (fun z => ?_) (fun z => ?_)
      · have hnf := ind_e0 z
        refine fin i a c' hst (by omega) hF g16 g19 g20 ?_
        rw [← he]
        unfold nuN
        rw [hnf]
      · have hfg := ind_n0 z
        have hfd := of_decide_eq_true hfg
        have he2 : nuN x.1 n (i + 1) (min (a * 10 + (x.1 i - 48).toNat) 10000) = nuN x.1 (x.2 - tSt x q) (tSt x q) 0 := by rw [← he]; conv => rhs; unfold nuN; rw [hfg]
        conv => whnf
        rw [g20]
        refine And.intro (rng_of (by omega) (by omega)) ?_
        conv => whnf
        rw [g16]
        refine And.intro (by omega) ?_
        conv => whnf
        rw [t1]
        refine And.intro (rng_of (by omega) (by omega)) ?_
        refine And.intro (rng_of (by omega) (by omega)) ?_
        refine ⟨_, _, rfl, ?_⟩
        have em : (if (10000 : Int) < (a : Int) * 10 + x.1 i - 48 then 10000 else (a : Int) * 10 + x.1 i - 48) = ((min (a * 10 + (x.1 i - 48).toNat) 10000 : Nat) : Int) := by
          have hmin := Nat.min_def (n := a * 10 + (x.1 i - 48).toNat) (m := 10000)
          split at hmin <;> split <;> omega
        rw [em]
        conv => whnf
        rw [g16]
        refine And.intro (rng_of (by omega) (by omega)) ?_
        exact ih (i + 1) (min (a * 10 + (x.1 i - 48).toNat) 10000) (kI (kI c' 20 ((min (a * 10 + (x.1 i - 48).toNat) 10000 : Nat) : Int)) 16 ((i : Int) + 1)) (by omega) (by omega) (Nat.min_le_right _ _) (FC_I (FC_I hF rfl) rfl) rfl g19 rfl he2
  have mid : ∀ c' : CS, FC [16, 18, 19, 20] [] [] c c' → c'.1 16 = (tSt x q : Nat) → K 52 [some (mR 25)] [] (hC w c') 0 0 := by
    intro c' hF g16
    have hs := t_le hq
    refine hK [65] _ _ _ _ _ _ ?_
    exact figs (x.2 - tSt x q) (tSt x q) 0 (kI (kI c' 19 (c'.1 16)) 20 0) (by omega) (Nat.le_refl _) (by omega) (FC_I (FC_I hF rfl) rfl) g16 g16 rfl rfl
  have blanks : ∀ (n i : Nat) (c' : CS), i + n = x.2 → FC [16, 18, 19, 20] [] [] c c' → c'.1 16 = (i : Nat) → skN x.1 n i = tSt x q → K 0 [some (mR 25)] [] (hC w c') 0 0 := by
    intro n
    induction n with
    | zero =>
      intro i c' hi hF g16 he
      have he : i = tSt x q := he
      have hT' := TPc_fr hT hF rfl rfl
      refine hK [52] _ _ _ _ _ _ ?_
      conv => whnf
      rw [g16, hT'.1]
      refine And.intro (fun _ => ?_) (fun q => absurd q (by omega))
      exact mid c' hF (by rw [g16, he])
    | succ n ih =>
      intro i c' hi hF g16 he
      have hT' := TPc_fr hT hF rfl rfl
      obtain ⟨t1, t2, t3⟩ := hT'.2.2 i (by omega)
      have he : (if x.1 i = 32 ∨ x.1 i = 10 then skN x.1 n (i + 1) else i) = tSt x q := he
      have nx : (x.1 i = 32 ∨ x.1 i = 10) → K 39 [some (mR 25)] [] (hC w c') 0 0 := by
        intro z
        rw [if_pos z] at he
        refine hK [0] _ _ _ _ _ _ ?_
        conv => whnf
        rw [g16]
        refine And.intro (rng_of (by omega) (by omega)) ?_
        exact ih (i + 1) (kI c' 16 ((i : Int) + 1)) (by omega) (FC_I hF rfl) rfl he
      refine hK [0, 39, 52] _ _ _ _ _ _ ?_
      conv => whnf
      rw [g16, hT'.1]
      refine And.intro (fun q => absurd q (by omega)) (fun _ => ?_)
      conv => whnf
      rw [g16]
      refine And.intro (by omega) ?_
      conv => whnf
      rw [t1]
      refine And.intro (fun z => ?_) (fun z => ?_)
      · exact nx (Or.inl z)
      · conv => whnf
        rw [g16]
        refine And.intro (by omega) ?_
        conv => whnf
        rw [t1]
        refine And.intro (fun z2 => ?_) (fun z2 => ?_)
        · rw [if_neg (by omega)] at he
          exact mid c' hF (by rw [g16, he])
        · exact nx (Or.inr z2)
  refine ⟨rfl, ?_⟩
  exact blanks (x.2 - q) q c (by omega) (FC_rf c) h16 rfl
theorem m_X3_advance (l : Launch) : mm_Met l yX3_advance cX3_advance 1 none 1 0 0 T_X3_advance := mm_met3 (E := e_X3_advance) (cd := kX3_advance) s_X3_advance (by decide) kX3_advance_ok (by decide +kernel) (by decide +kernel) (Or.inl ⟨rfl, rfl⟩) rfl (mm_eok_X3 _) (mm_cq_cons (mm_CQ_of (mm_cbs wi_X3_isFigure (tb3 (i := 184) rfl rfl) (m_X3_isFigure l) (by decide) (by decide) rfl)) (mm_cq_cons (mm_CQ_min wi_J9_min_7cf53 (tb3 (i := 177) rfl rfl) (by omega)) (mm_cq_nil)))
