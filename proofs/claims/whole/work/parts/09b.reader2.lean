/-! the component's reader: signs, numbers, steps -/
def PXc (x : TP) (c : CS) : PP → Prop
  | .inl e => c.1 13 = (e.1 : Nat) ∧ 1 ≤ e.1 ∧ e.1 ≤ 3 ∧ c.1 14 = (e.2 : Nat) ∧ e.2 ≤ 200 ∧ c.1 16 = (x.2 : Nat) ∧ c.1 18 = -1
  | .inr p => (c.1 13 = 0 ∧ c.1 14 = -1) ∧ TKc x c p
abbrev IR : List Nat := [13, 14, 16, 17, 18, 19, 20, 21]
abbrev IA : List Nat := [27, 28, 29, 30]
theorem TKc_fr {x : TP} {p : Nat} {I A L : List Nat} {c c' : CS} (h : TKc x c p) (hF : FC I A L c c') (hI : [16, 18, 19, 20].all (fun j => !(mm_mem j I)) = true) : TKc x c' p := by
  simp only [List.all_cons, List.all_nil, Bool.and_eq_true, Bool.not_eq_true'] at hI
  obtain ⟨i16, i18, i19, i20, -⟩ := hI
  exact ⟨(hF.1 16 i16).trans h.1, (hF.1 19 i19).trans h.2.1, (hF.1 18 i18).trans h.2.2.1, (hF.1 20 i20).trans h.2.2.2.1, h.2.2.2.2⟩
theorem PXc_fr {x : TP} {P : PP} {I A L : List Nat} {c c' : CS} (h : PXc x c P) (hF : FC I A L c c') (hI : [13, 14, 16, 18, 19, 20].all (fun j => !(mm_mem j I)) = true) : PXc x c' P := by
  have hI0 := hI
  simp only [List.all_cons, List.all_nil, Bool.and_eq_true, Bool.not_eq_true'] at hI
  obtain ⟨i13, i14, i16, i18, i19, i20, -⟩ := hI
  cases P with
  | inl e => exact ⟨(hF.1 13 i13).trans h.1, h.2.1, h.2.2.1, (hF.1 14 i14).trans h.2.2.2.1, h.2.2.2.2.1, (hF.1 16 i16).trans h.2.2.2.2.2.1, (hF.1 18 i18).trans h.2.2.2.2.2.2⟩
  | inr p => exact ⟨⟨(hF.1 13 i13).trans h.1.1, (hF.1 14 i14).trans h.1.2⟩, TKc_fr h.2 hF (by simp only [List.all_cons, List.all_nil, Bool.and_eq_true, Bool.not_eq_true']; exact ⟨i16, i18, i19, i20, trivial⟩)⟩
def pAtq (x : TP) : PP → Nat
  | .inl _ => x.2
  | .inr p => tNx x p
theorem pAtq_ok {x : TP} {c : CS} {P : PP} (h : PXc x c P) : c.1 16 = (pAtq x P : Nat) ∧ pAtq x P ≤ x.2 := by
  cases P with
  | inl e => exact ⟨h.2.2.2.2.2.1, Nat.le_refl _⟩
  | inr p => exact ⟨h.2.1, (t_le h.2.2.2.2.2).2.2.1⟩
theorem tEnd (x : TP) : tNx x x.2 = x.2 ∧ tTk x x.2 = -1 := by
  have e : tSt x x.2 = x.2 := by unfold tSt; rw [Nat.sub_self]; rfl
  unfold tNx tTk
  rw [e, if_neg (by omega), if_neg (by omega)]
  exact ⟨rfl, rfl⟩
theorem PXc_adv {x : TP} {c c' : CS} {P : PP} (h : PXc x c P) (hF : FC [16, 18, 19, 20] [] [] c c') (hk : TKc x c' (pAtq x P)) : PXc x c' (pNx x P) := by
  cases P with
  | inl e =>
    have h3 := tEnd x
    obtain ⟨k1, k2, k3, k4, k5⟩ := hk
    exact ⟨(hF.1 13 rfl).trans h.1, h.2.1, h.2.2.1, (hF.1 14 rfl).trans h.2.2.2.1, h.2.2.2.2.1, by rw [k1]; show ((tNx x x.2 : Nat) : Int) = _; rw [h3.1], by rw [k3]; exact h3.2⟩
  | inr p => exact ⟨⟨(hF.1 13 rfl).trans h.1.1, (hF.1 14 rfl).trans h.1.2⟩, hk⟩
def pRef (x : TP) (k : Nat) : PP → PP
  | .inl e => .inl e
  | .inr p => .inl (k, tSt x p)
def T_X3_refuse : Tr := fun av h N _ => ∃ (w : CW) (c : CS) (x : TP) (P : PP) (k : Nat), av = [mR 25, mI k] ∧ h = hC w c ∧ TPc x c ∧ PXc x c P ∧ 1 ≤ k ∧ k ≤ 3 ∧ ∀ c' : CS, FC [13, 14, 16, 18] [] [] c c' → PXc x c' (pRef x k P) → N none (hC w c')
abbrev e_X3_refuse : NE := (ftX3, [], ltX3, [], [], false, 0, (0, 0), [], [], [], true)
theorem s_X3_refuse : mm_Spec e_X3_refuse kX3_refuse 2 T_X3_refuse := by
  rintro N X K av h hK ⟨w, c, x, P, k, rfl, rfl, hT, hP, hk1, hk3, h2⟩
  refine ⟨rfl, hK [] _ _ _ _ _ _ ?_⟩
  cases P with
  | inl e =>
    obtain ⟨p1, p2, p3, p4, p5, p6, p7⟩ := hP
    refine And.intro (fun _ => ?_) (fun q => absurd q (by omega))
    exact h2 (kI (kI c 16 (c.1 15)) 18 (-1)) (FC_I (FC_I (FC_rf c) rfl) rfl) ⟨p1, p2, p3, p4, p5, hT.1, rfl⟩
  | inr p =>
    obtain ⟨⟨p1, -⟩, p2⟩ := hP
    have ht := t_le p2.2.2.2.2
    have h200 := hT.2.1
    refine And.intro (fun q => absurd q (by omega)) (fun _ => ?_)
    exact h2 (kI (kI (kI (kI c 13 (k : Int)) 14 (c.1 19)) 16 (c.1 15)) 18 (-1)) (FC_I (FC_I (FC_I (FC_I (FC_rf c) rfl) rfl) rfl) rfl) ⟨rfl, hk1, hk3, p2.2.1, by show tSt x p ≤ 200; omega, hT.1, rfl⟩
theorem m_X3_refuse (l : Launch) : mm_Met l yX3_refuse cX3_refuse 2 none 0 0 0 T_X3_refuse := mm_met (E := e_X3_refuse) (cd := kX3_refuse) s_X3_refuse (by decide) kX3_refuse_ok (by decide +kernel) (by decide +kernel) (Or.inl ⟨rfl, rfl⟩) rfl (mm_eok_X3 _) (mm_calls_nil)
def T_X3_skip : Tr := fun av h N _ => ∃ (w : CW) (c : CS) (x : TP) (P : PP) (s : Int), av = [mR 25, mI s] ∧ h = hC w c ∧ TPc x c ∧ PXc x c P ∧ 0 ≤ s ∧ ∀ c' : CS, FC [13, 14, 16, 18, 19, 20] [] [] c c' → PXc x c' (pSt (pL (pSkip x s) P)) → N none (hC w c')
abbrev e_X3_skip : NE := (ftX3, [(53, (1, 0, 0, false, (0, 3), T_X3_advance)), (62, (2, 0, 0, false, (0, 3), T_X3_refuse))], ltX3, [], [], false, 0, (0, 0), [], [], [], true)
theorem s_X3_skip : mm_Spec e_X3_skip kX3_skip 2 T_X3_skip := by
  rintro N X K av h hK ⟨w, c, x, P, s, rfl, rfl, hT, hP, hs, h2⟩
  refine ⟨rfl, hK [] _ _ _ _ _ _ ?_⟩
  cases P with
  | inl e =>
    have p7 := hP.2.2.2.2.2.2
    refine And.intro (fun _ => ?_) (fun q => absurd q (by omega))
    exact ⟨w, c, x, .inl e, 1, rfl, rfl, hT, hP, by omega, by omega, fun c' hF hk => h2 c' (FC_mono hF rfl rfl rfl) hk⟩
  | inr p =>
    have e3 := hP.2.2.2.1
    conv => whnf
    rw [e3]
    refine And.intro (fun q => ?_) (fun q => ?_)
    · refine ⟨w, c, x, .inr p, 1, rfl, rfl, hT, hP, by omega, by omega, fun c' hF hk => h2 c' (FC_mono hF rfl rfl rfl) ?_⟩
      show PXc x c' (pSt (pSkip x s p))
      unfold pSkip
      rw [if_neg q]
      exact hk
    · obtain ⟨a1, a2⟩ := pAtq_ok hP
      refine ⟨w, c, x, tNx x p, rfl, rfl, hT, a1, a2, fun c' hF hk => h2 c' (FC_mono hF rfl rfl rfl) ?_⟩
      show PXc x c' (pSt (pSkip x s p))
      unfold pSkip
      rw [if_pos q]
      exact PXc_adv hP hF hk
theorem m_X3_skip (l : Launch) : mm_Met l yX3_skip cX3_skip 2 none 2 0 0 T_X3_skip := mm_met (E := e_X3_skip) (cd := kX3_skip) s_X3_skip (by decide) kX3_skip_ok (by decide +kernel) (by decide +kernel) (Or.inl ⟨rfl, rfl⟩) rfl (mm_eok_X3 _) (mm_calls_cons (mm_cbv wi_X3_advance (tb3 (i := 180) rfl rfl) (m_X3_advance l) (by decide) (by decide) rfl) (mm_calls_cons (mm_cbv wi_X3_refuse (tb3 (i := 211) rfl rfl) (m_X3_refuse l) (by decide) (by decide) rfl) (mm_calls_nil)))
def T_X3_readNumber : Tr := fun av h N _ => ∃ (w : CW) (c : CS) (x : TP) (P : PP) (cn : Nat → Bool) (b : Int), av = [mR 25, mI b] ∧ h = hC w c ∧ TPc x c ∧ PXc x c P ∧ (∀ p, P = .inr p → tTk x p = -2 → b = (ind (cn (tNm x p)) : Nat)) ∧ ∀ c' : CS, FC [13, 14, 16, 18, 19, 20] [] [] c c' → PXc x c' (pSt (pL (pNum x cn) P)) → N (some (mI (pVl 0 (pL (pNum x cn) P) : Nat))) (hC w c')
abbrev e_X3_readNumber : NE := (ftX3, [(62, (2, 0, 0, false, (0, 3), T_X3_refuse)), (53, (1, 0, 0, false, (0, 3), T_X3_advance))], ltX3, [], [], false, 1, (0, 0), [], [], [], true)
theorem s_X3_readNumber : mm_Spec e_X3_readNumber kX3_readNumber 3 T_X3_readNumber := by
  rintro N X K av h hK ⟨w, c, x, P, cn, b, rfl, rfl, hT, hP, hcb, h2⟩
  refine ⟨rfl, hK [] _ _ _ _ _ _ ?_⟩
  cases P with
  | inl e =>
    have p7 := hP.2.2.2.2.2.2
    refine And.intro (fun q => absurd q (by omega)) (fun _ => ?_)
    exact ⟨w, c, x, .inl e, 1, rfl, rfl, hT, hP, by omega, by omega, fun c' hF hk => h2 c' (FC_mono hF rfl rfl rfl) hk⟩
  | inr p =>
    have e3 := hP.2.2.2.1
    have h2 : ∀ c' : CS, FC [13, 14, 16, 18, 19, 20] [] [] c c' → PXc x c' (pSt (pNum x cn p)) → N (some (mI (pVl 0 (pNum x cn p) : Nat))) (hC w c') := h2
    conv => whnf
    rw [e3]
    refine And.intro (fun q => ?_) (fun q => ?_)
    · have hbq := hcb p rfl q
      refine And.intro (fun q2 => ?_) (fun q2 => ?_)
      · have ht := ind_n0 (by rw [← hbq]; exact q2)
        have e : pNum x cn p = .inr (tNx x p, tNm x p) := by
          unfold pNum
          rw [if_pos q, ht]
        rw [e] at h2
        obtain ⟨a1, a2⟩ := pAtq_ok hP
        conv => whnf
        rw [hP.2.2.2.2.1]
        exact ⟨w, c, x, tNx x p, rfl, rfl, hT, a1, a2, fun c' hF hk => h2 c' (FC_mono hF rfl rfl rfl) (PXc_adv hP hF hk)⟩
      · have ht := ind_e0 (by rw [← hbq]; exact q2)
        have e : pNum x cn p = .inl (2, tSt x p) := by
          unfold pNum
          rw [if_pos q, ht]
        rw [e] at h2
        exact ⟨w, c, x, .inr p, 2, rfl, rfl, hT, hP, by omega, by omega, fun c' hF hk => h2 c' (FC_mono hF rfl rfl rfl) hk⟩
    · have e : pNum x cn p = .inl (1, tSt x p) := by
        unfold pNum
        rw [if_neg q]
      rw [e] at h2
      exact ⟨w, c, x, .inr p, 1, rfl, rfl, hT, hP, by omega, by omega, fun c' hF hk => h2 c' (FC_mono hF rfl rfl rfl) hk⟩
theorem m_X3_readNumber (l : Launch) : mm_Met l yX3_readNumber cX3_readNumber 3 (some .int) 2 0 0 T_X3_readNumber := mm_met (E := e_X3_readNumber) (cd := kX3_readNumber) s_X3_readNumber (by decide) kX3_readNumber_ok (by decide +kernel) (by decide +kernel) (Or.inr (Or.inl ⟨rfl, rfl⟩)) rfl (mm_eok_X3 _) (mm_calls_cons (mm_cbv wi_X3_refuse (tb3 (i := 211) rfl rfl) (m_X3_refuse l) (by decide) (by decide) rfl) (mm_calls_cons (mm_cbv wi_X3_advance (tb3 (i := 180) rfl rfl) (m_X3_advance l) (by decide) (by decide) rfl) (mm_calls_nil)))
/-! the steps -/
def opd : OP := (0, 0, 0, 0)
def PGc (c : CS) (ops : List OP) : Prop := c.1 21 = (ops.length : Nat) ∧ ∀ i : Nat, i < ops.length → c.2.1 27 (i : Int) = ((ops.getD i opd).1 : Nat) ∧ c.2.1 28 (i : Int) = (ops.getD i opd).2.1 ∧ c.2.1 29 (i : Int) = (ops.getD i opd).2.2.1 ∧ c.2.1 30 (i : Int) = (ops.getD i opd).2.2.2
theorem PGc_fr {ops : List OP} {I A L : List Nat} {c c' : CS} (h : PGc c ops) (hF : FC I A L c c') (h1 : mm_mem 21 I = false) (hA : IA.all (fun j => !(mm_mem j A)) = true) : PGc c' ops := by
  simp only [IA, List.all_cons, List.all_nil, Bool.and_eq_true, Bool.not_eq_true'] at hA
  obtain ⟨a1, a2, a3, a4, -⟩ := hA
  refine ⟨(hF.1 21 h1).trans h.1, ?_⟩
  rw [hF.2.1 27 a1, hF.2.1 28 a2, hF.2.1 29 a3, hF.2.1 30 a4]
  exact h.2
def T_X2_add : Tr := fun av h N _ => ∃ (w : CW) (c : CS) (o : OP), av = [mR 26, mI (o.1 : Nat), mI o.2.1, mI o.2.2.1, mI o.2.2.2] ∧ h = hC w c ∧ (0 ≤ c.1 21 ∧ c.1 21 ≤ 200) ∧ ∀ c' : CS, FC [21] IA [] c c' → (0 ≤ c'.1 21 ∧ c'.1 21 ≤ 200) → (∀ ops : List OP, PGc c ops → ops.length < 200 → PGc c' (ops ++ [o])) → N none (hC w c')
abbrev e_X2_add : NE := (ftX2, [], ltX2, [], [], false, 0, (0, 0), [], [], [], true)
theorem getD_ol {A B : List OP} {i : Nat} (h : i < A.length) : (A ++ B).getD i opd = A.getD i opd := by
  rw [List.getD_eq_getElem?_getD, List.getD_eq_getElem?_getD, List.getElem?_append_left h]
theorem getD_or {A B : List OP} {i : Nat} (h : A.length ≤ i) : (A ++ B).getD i opd = B.getD (i - A.length) opd := by
  rw [List.getD_eq_getElem?_getD, List.getD_eq_getElem?_getD, List.getElem?_append_right h]
theorem s_X2_add : mm_Spec e_X2_add kX2_add 5 T_X2_add := by
  rintro N X K av h hK ⟨w, c, ⟨o1, o2, o3, o4⟩, rfl, rfl, hl, h2⟩
  refine ⟨rfl, hK [] _ _ _ _ _ _ ?_⟩
  refine And.intro (fun q => ?_) (fun q => ?_)
  · refine h2 c (FC_rf c) hl (fun ops hp hlt => ?_)
    have := hp.1
    omega
  · have q : c.1 21 < 200 := q
    refine And.intro (show 0 ≤ c.1 21 ∧ c.1 21 < ((200 : Nat) : Int) by omega) ?_
    refine And.intro (show 0 ≤ c.1 21 ∧ c.1 21 < ((200 : Nat) : Int) by omega) ?_
    refine And.intro (show 0 ≤ c.1 21 ∧ c.1 21 < ((200 : Nat) : Int) by omega) ?_
    refine And.intro (show 0 ≤ c.1 21 ∧ c.1 21 < ((200 : Nat) : Int) by omega) ?_
    refine And.intro (show mm_rng (c.1 21 + 1) from rng_of (by omega) (by omega)) ?_
    refine h2 (kI (kA (kA (kA (kA c 27 (mm_upd (c.2.1 27) (c.1 21) (o1 : Int))) 28 (mm_upd (c.2.1 28) (c.1 21) o2)) 29 (mm_upd (c.2.1 29) (c.1 21) o3)) 30 (mm_upd (c.2.1 30) (c.1 21) o4)) 21 (c.1 21 + 1)) (FC_I (FC_A (FC_A (FC_A (FC_A (FC_rf c) rfl) rfl) rfl) rfl) rfl) (by show 0 ≤ c.1 21 + 1 ∧ c.1 21 + 1 ≤ 200; omega) (fun ops hp hlt => ?_)
    obtain ⟨p1, p2⟩ := hp
    refine ⟨?_, fun i hi => ?_⟩
    · show c.1 21 + 1 = _
      rw [p1]
      simp only [List.length_append, List.length_cons, List.length_nil]
      rfl
    · simp only [List.length_append, List.length_cons, List.length_nil] at hi
      show mm_upd (c.2.1 27) (c.1 21) (o1 : Int) (i : Int) = _ ∧ mm_upd (c.2.1 28) (c.1 21) o2 (i : Int) = _ ∧ mm_upd (c.2.1 29) (c.1 21) o3 (i : Int) = _ ∧ mm_upd (c.2.1 30) (c.1 21) o4 (i : Int) = _
      unfold mm_upd
      rw [p1]
      by_cases e : i = ops.length
      · subst e
        rw [getD_or (Nat.le_refl _), Nat.sub_self]
        simp only [if_true]
        exact ⟨rfl, rfl, rfl, rfl⟩
      · rw [getD_ol (by omega)]
        have ne : ¬ ((i : Int) = (ops.length : Int)) := by omega
        rw [if_neg ne, if_neg ne, if_neg ne, if_neg ne]
        exact p2 i (by omega)
theorem m_X2_add (l : Launch) : mm_Met l yX2_add cX2_add 5 none 0 0 0 T_X2_add := mm_met (E := e_X2_add) (cd := kX2_add) s_X2_add (by decide) kX2_add_ok (by decide +kernel) (by decide +kernel) (Or.inl ⟨rfl, rfl⟩) rfl (mm_eok_X2 _) (mm_calls_nil)
