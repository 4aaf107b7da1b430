/-! the reference: reading numbers and signs; values on the stack of slots -/
abbrev PP : Type := (Nat × Nat) ⊕ Nat
def PX (x : TP) (s : RS) : PP → Prop
  | .inl e => s.1 34 = (e.1 : Nat) ∧ 1 ≤ e.1 ∧ e.1 ≤ 3 ∧ s.1 35 = (e.2 : Nat) ∧ e.2 ≤ 200
  | .inr p => s.1 34 = 0 ∧ TK x s p
def pL {α : Type} (F : Nat → PR α) : PP → PR α
  | .inl e => .inl e
  | .inr p => F p
def pSt {α : Type} : PR α → PP
  | .inl e => .inl e
  | .inr v => .inr v.1
def pVl {α : Type} (d : α) : PR α → α
  | .inl _ => d
  | .inr v => v.2
def pNx (x : TP) : PP → PP
  | .inl e => .inl e
  | .inr p => .inr (tNx x p)
theorem pB_eq {α β : Type} (d : α) (r : PR α) (G : Nat → α → PR β) : pB r G = pL (fun p => G p (pVl d r)) (pSt r) := by
  cases r <;> rfl
theorem pL_B {α β : Type} (d : α) (F : Nat → PR α) (G : Nat → α → PR β) (P : PP) : pL (fun p => pB (F p) G) P = pL (fun p => G p (pVl d (pL F P))) (pSt (pL F P)) := by
  cases P with
  | inl e => rfl
  | inr p => exact pB_eq d (F p) G
theorem pL_nx {α : Type} (x : TP) (F : Nat → PR α) (P : PP) : pL (fun p => F (tNx x p)) P = pL F (pNx x P) := by
  cases P <;> rfl
theorem PX_fr {x : TP} {P : PP} {I A L : List Nat} {s s' : RS} (h : PX x s P) (hF : FR I A L s s') (hI : [30, 31, 32, 33, 34, 35].all (fun j => !(mm_mem j I)) = true) : PX x s' P := by
  simp only [List.all_cons, List.all_nil, Bool.and_eq_true, Bool.not_eq_true'] at hI
  obtain ⟨i30, i31, i32, i33, i34, i35, -⟩ := hI
  cases P with
  | inl e => exact ⟨(hF.1 34 i34).trans h.1, h.2.1, h.2.2.1, (hF.1 35 i35).trans h.2.2.2.1, h.2.2.2.2⟩
  | inr p => exact ⟨(hF.1 34 i34).trans h.1, TK_fr h.2 hF i30 i31 i32 i33⟩
theorem tTk_rng {x : TP} {s : RS} (h : TPR x s) (p : Nat) : -2 ≤ tTk x p ∧ tTk x p ≤ 255 := by
  unfold tTk
  by_cases q : tSt x p < x.2
  · rw [if_pos q]
    have := (h.2.2 _ q).2
    cases isFg (x.1 (tSt x p)) with
    | true => show (-2 : Int) ≤ -2 ∧ (-2 : Int) ≤ 255; omega
    | false => show -2 ≤ x.1 (tSt x p) ∧ x.1 (tSt x p) ≤ 255; omega
  · rw [if_neg q]; omega
theorem rtk_c {t c : Int} (hc : 0 ≤ c) : rtk t = c ↔ t = c := by
  unfold rtk
  by_cases q : t = -2
  · rw [if_pos q]; omega
  · rw [if_neg q]
theorem rtk_n {t : Int} (h : -2 ≤ t) : rtk t = -3 ↔ t = -2 := by
  unfold rtk
  by_cases q : t = -2
  · rw [if_pos q]; omega
  · rw [if_neg q]; omega
theorem rtk_e {t : Int} : rtk t = -1 ↔ t = -1 := by
  unfold rtk
  by_cases q : t = -2
  · rw [if_pos q]; omega
  · rw [if_neg q]
def T_X10_wrong : Tr := fun av h N _ => ∃ (w : FW) (s : RS) (k : Int), av = [mR 1000, mI k] ∧ h = hR w s ∧ (¬ s.1 34 = 0 → N none (hR w s)) ∧ (s.1 34 = 0 → N none (hR w (sI (sI s 34 k) 35 (s.1 31))))
abbrev e_X10_wrong : NE := (ftX10, [], ltX10, [], [], false, 0, (0, 0), [], [], [], false)
theorem s_X10_wrong : mm_Spec e_X10_wrong kX10_wrong 2 T_X10_wrong := by
  rintro N X K av h hK ⟨w, s, k, rfl, rfl, h1, h2⟩
  refine ⟨rfl, hK [] _ _ _ _ _ _ ?_⟩
  exact And.intro (fun q => h2 q) (fun q => h1 q)
theorem m_X10_wrong (l : Launch) : mm_Met l yX10_wrong cX10_wrong 2 none 0 0 0 T_X10_wrong := mm_met (E := e_X10_wrong) (cd := kX10_wrong) s_X10_wrong (by decide) kX10_wrong_ok (by decide +kernel) (by decide +kernel) (Or.inl ⟨rfl, rfl⟩) rfl (mm_eok_X10 _) (mm_calls_nil)
def T_X10_pass : Tr := fun av h N _ => ∃ (w : FW) (s : RS) (x : TP) (P : PP), av = [mR 1000] ∧ h = hR w s ∧ TPR x s ∧ PX x s P ∧ ∀ s' : RS, FR [30, 31, 32, 33] [] [] s s' → PX x s' (pNx x P) → N none (hR w s')
abbrev e_X10_pass : NE := (ftX10, [(247, (1, 0, 0, false, (0, 10), T_X10_step))], ltX10, [], [], false, 0, (0, 0), [], [], [], false)
theorem s_X10_pass : mm_Spec e_X10_pass kX10_pass 1 T_X10_pass := by
  rintro N X K av h hK ⟨w, s, x, P, rfl, rfl, hT, hP, h2⟩
  refine ⟨rfl, hK [] _ _ _ _ _ _ ?_⟩
  cases P with
  | inl e =>
    obtain ⟨p1, p2, p3⟩ := hP
    refine And.intro (fun _ => ?_) (fun q => absurd q (by omega))
    exact h2 s (FR_rf s) ⟨p1, p2, p3⟩
  | inr p =>
    obtain ⟨p1, p2⟩ := hP
    refine And.intro (fun q => absurd q (by omega)) (fun _ => ?_)
    refine ⟨w, s, x, tNx x p, rfl, rfl, hT, p2.1, (t_le p2.2.2.2.2).2.2.1, fun s' hF hk => h2 s' hF ⟨(hF.1 34 rfl).trans p1, hk⟩⟩
theorem m_X10_pass (l : Launch) : mm_Met l yX10_pass cX10_pass 1 none 2 0 0 T_X10_pass := mm_met (E := e_X10_pass) (cd := kX10_pass) s_X10_pass (by decide) kX10_pass_ok (by decide +kernel) (by decide +kernel) (Or.inl ⟨rfl, rfl⟩) rfl (mm_eok_X10 _) (mm_calls_cons (mm_cbv wi_X10_step (tb6 (i := 188) rfl rfl) (m_X10_step l) (by decide) (by decide) rfl) (mm_calls_nil))
abbrev F6 : List Nat := [30, 31, 32, 33, 34, 35]
theorem PX_wrong {x : TP} {s : RS} {p : Nat} {k : Nat} (hT : TPR x s) (h : PX x s (.inr p)) (hk : 1 ≤ k ∧ k ≤ 3) : PX x (sI (sI s 34 (k : Int)) 35 (s.1 31)) (.inl (k, tSt x p)) := by
  have := t_le (x := x) h.2.2.2.2.2
  have h2 := hT.2.1
  exact ⟨rfl, hk.1, hk.2, h.2.2.1, by show tSt x p ≤ 200; omega⟩
def T_X10_must : Tr := fun av h N _ => ∃ (w : FW) (s : RS) (x : TP) (P : PP) (c : Int), av = [mR 1000, mI c] ∧ h = hR w s ∧ TPR x s ∧ PX x s P ∧ 0 ≤ c ∧ ∀ s' : RS, FR F6 [] [] s s' → PX x s' (pSt (pL (pSkip x c) P)) → N none (hR w s')
abbrev e_X10_must : NE := (ftX10, [(250, (2, 0, 0, false, (0, 10), T_X10_wrong)), (253, (1, 0, 0, false, (0, 10), T_X10_pass))], ltX10, [], [], false, 0, (0, 0), [], [], [], false)
theorem s_X10_must : mm_Spec e_X10_must kX10_must 2 T_X10_must := by
  rintro N X K av h hK ⟨w, s, x, P, c, rfl, rfl, hT, hP, hc, h2⟩
  refine ⟨rfl, hK [] _ _ _ _ _ _ ?_⟩
  cases P with
  | inl e =>
    have p1 := hP.1
    have p2 := hP.2.1
    refine And.intro (fun _ => ?_) (fun q => absurd q (by omega))
    refine ⟨w, s, x, .inl e, rfl, rfl, hT, hP, fun s' hF hk => h2 s' (FR_mono hF rfl rfl rfl) hk⟩
  | inr p =>
    have p1 := hP.1
    refine And.intro (fun q => absurd q (by omega)) (fun _ => ?_)
    conv => whnf
    rw [hP.2.2.2.1]
    refine And.intro (fun q => ?_) (fun q => ?_)
    · have q := (rtk_c hc).mp q
      refine ⟨w, s, x, .inr p, rfl, rfl, hT, hP, fun s' hF hk => h2 s' (FR_mono hF rfl rfl rfl) ?_⟩
      show PX x s' (pSt (pSkip x c p))
      unfold pSkip
      rw [if_pos q]
      exact hk
    · have q : ¬ tTk x p = c := fun z => q ((rtk_c hc).mpr z)
      refine ⟨w, s, 1, rfl, rfl, fun z => absurd p1 z, fun _ => ?_⟩
      refine ⟨w, sI (sI s 34 1) 35 (s.1 31), x, .inl (1, tSt x p), rfl, rfl, hT, PX_wrong (k := 1) hT hP (by omega), fun s' hF hk => h2 s' (FR_tr (FR_I (FR_I (FR_rf s) rfl) rfl) hF rfl rfl rfl) ?_⟩
      show PX x s' (pSt (pSkip x c p))
      unfold pSkip
      rw [if_neg q]
      exact hk
theorem m_X10_must (l : Launch) : mm_Met l yX10_must cX10_must 2 none 3 0 0 T_X10_must := mm_met (E := e_X10_must) (cd := kX10_must) s_X10_must (by decide) kX10_must_ok (by decide +kernel) (by decide +kernel) (Or.inl ⟨rfl, rfl⟩) rfl (mm_eok_X10 _) (mm_calls_cons (mm_cbv wi_X10_wrong (tb6 (i := 220) rfl rfl) (m_X10_wrong l) (by decide) (by decide) rfl) (mm_calls_cons (mm_cbv wi_X10_pass (tb6 (i := 224) rfl rfl) (m_X10_pass l) (by decide) (by decide) rfl) (mm_calls_nil)))
def cLe (m : Int) (n : Nat) : Bool := decide ((n : Int) ≤ m)
def T_X10_readNumber : Tr := fun av h N _ => ∃ (w : FW) (s : RS) (x : TP) (P : PP) (m : Int), av = [mR 1000, mI m] ∧ h = hR w s ∧ TPR x s ∧ PX x s P ∧ ∀ s' : RS, FR F6 [] [] s s' → PX x s' (pSt (pL (pNum x (cLe m)) P)) → N (some (mI (pVl 0 (pL (pNum x (cLe m)) P) : Nat))) (hR w s')
abbrev e_X10_readNumber : NE := (ftX10, [(250, (2, 0, 0, false, (0, 10), T_X10_wrong)), (253, (1, 0, 0, false, (0, 10), T_X10_pass))], ltX10, [], [], false, 1, (0, 0), [], [], [], false)
theorem s_X10_readNumber : mm_Spec e_X10_readNumber kX10_readNumber 3 T_X10_readNumber := by
  rintro N X K av h hK ⟨w, s, x, P, m, rfl, rfl, hT, hP, h2⟩
  -- behind the tests
  have bad : ∀ (s1 : RS) (e : Nat × Nat), FR F6 [] [] s s1 → PX x s1 (.inl e) → pL (pNum x (cLe m)) P = .inl e → K 44 [some (mR 1000), some (mI m), none] [] (hR w s1) 0 0 := by
    intro s1 e hF hb he
    rw [he] at h2
    have b1 := hb.1
    have b2 := hb.2.1
    refine hK [] _ _ _ _ _ _ ?_
    refine And.intro (fun _ => ?_) (fun q => absurd q (by omega))
    refine ⟨w, s1, x, .inl e, rfl, rfl, TPR_fr hT hF rfl rfl, hb, fun s' hF2 hk => h2 s' (FR_tr hF hF2 rfl rfl rfl) hk⟩
  refine ⟨rfl, hK [44] _ _ _ _ _ _ ?_⟩
  cases P with
  | inl e =>
    have p1 := hP.1
    have p2 := hP.2.1
    refine And.intro (fun _ => ?_) (fun q => absurd q (by omega))
    refine And.intro (fun _ => ?_) (fun q => absurd q (by omega))
    exact bad s e (FR_rf s) hP rfl
  | inr p =>
    have p1 := hP.1
    have hr := tTk_rng hT p
    refine And.intro (fun q => absurd q (by omega)) (fun _ => ?_)
    conv => whnf
    rw [hP.2.2.2.1]
    refine And.intro (fun q => ?_) (fun q => ?_)
    · have q := (rtk_n hr.1).mp q
      have hnm := hP.2.2.2.2.1 q
      have hnl := tNm_le x p
      refine And.intro (fun q => absurd q (by omega)) (fun _ => ?_)
      conv => whnf
      rw [hnm]
      refine And.intro (fun q2 => ?_) (fun q2 => ?_)
      · have e : pL (pNum x (cLe m)) (.inr p) = .inr (tNx x p, tNm x p) := by
          show pNum x (cLe m) p = _
          unfold pNum
          rw [if_pos q, show cLe m (tNm x p) = true from decide_eq_true q2]
        rw [e] at h2
        refine hK [] _ _ _ _ _ _ ?_
        refine And.intro (fun q => absurd q (by omega)) (fun _ => ?_)
        conv => whnf
        rw [hnm]
        exact ⟨w, s, x, .inr p, rfl, rfl, hT, hP, fun s' hF hk => h2 s' (FR_mono hF rfl rfl rfl) hk⟩
      · refine ⟨w, s, 2, rfl, rfl, fun z => absurd p1 z, fun _ => ?_⟩
        refine bad _ (2, tSt x p) (FR_I (FR_I (FR_rf s) rfl) rfl) (PX_wrong (k := 2) hT hP (by omega)) ?_
        show pNum x (cLe m) p = _
        unfold pNum
        rw [if_pos q, show cLe m (tNm x p) = false from decide_eq_false (by omega)]
    · have q : ¬ tTk x p = -2 := fun z => q ((rtk_n hr.1).mpr z)
      refine ⟨w, s, 1, rfl, rfl, fun z => absurd p1 z, fun _ => ?_⟩
      refine bad _ (1, tSt x p) (FR_I (FR_I (FR_rf s) rfl) rfl) (PX_wrong (k := 1) hT hP (by omega)) ?_
      show pNum x (cLe m) p = _
      unfold pNum
      rw [if_neg q]
theorem m_X10_readNumber (l : Launch) : mm_Met l yX10_readNumber cX10_readNumber 3 (some .int) 3 0 0 T_X10_readNumber := mm_met (E := e_X10_readNumber) (cd := kX10_readNumber) s_X10_readNumber (by decide) kX10_readNumber_ok (by decide +kernel) (by decide +kernel) (Or.inr (Or.inl ⟨rfl, rfl⟩)) rfl (mm_eok_X10 _) (mm_calls_cons (mm_cbv wi_X10_wrong (tb6 (i := 220) rfl rfl) (m_X10_wrong l) (by decide) (by decide) rfl) (mm_calls_cons (mm_cbv wi_X10_pass (tb6 (i := 224) rfl rfl) (m_X10_pass l) (by decide) (by decide) rfl) (mm_calls_nil)))
def T_X10_isGoing : Tr := fun av h N _ => ∃ (w : FW) (s : RS), av = [mR 1000] ∧ h = hR w s ∧ N (some (mI (bi (¬ s.1 39 = 0 ∧ s.1 34 = 0 ∧ s.1 40 = 0)))) h
abbrev e_X10_isGoing : NE := (ftX10, [], ltX10, [], [], false, 2, (0, 0), [], [], [], false)
theorem s_X10_isGoing : mm_Spec e_X10_isGoing kX10_isGoing 1 T_X10_isGoing := by
  rintro N X K av h hK ⟨w, s, rfl, rfl, h2⟩
  refine ⟨rfl, hK [] _ _ _ _ _ _ ?_⟩
  refine And.intro (fun q => ?_) (fun q => ?_)
  · rw [bi_f (fun z => z.1 q)] at h2
    exact And.intro (Or.inl rfl) h2
  refine And.intro (fun q2 => ?_) (fun q2 => ?_)
  · rw [bi_f (fun z => q2 z.2.1)] at h2
    exact And.intro (Or.inl rfl) h2
  refine And.intro (fun q3 => ?_) (fun q3 => ?_)
  · rw [bi_f (fun z => q3 z.2.2)] at h2
    exact And.intro (Or.inl rfl) h2
  · rw [bi_t ⟨q, q2, q3⟩] at h2
    exact And.intro (Or.inr rfl) h2
theorem m_X10_isGoing (l : Launch) : mm_Met l yX10_isGoing cX10_isGoing 1 (some .boolean) 0 0 0 T_X10_isGoing := mm_met (E := e_X10_isGoing) (cd := kX10_isGoing) s_X10_isGoing (by decide) kX10_isGoing_ok (by decide +kernel) (by decide +kernel) (Or.inr (Or.inr (Or.inl ⟨rfl, rfl⟩))) rfl (mm_eok_X10 _) (mm_calls_nil)
def T_X10_comes : Tr := fun av h N _ => ∃ (w : FW) (s : RS) (g : Int), av = [mR 1000, mI g] ∧ h = hR w s ∧ (g = 0 → N none (hR w (sI s 40 1))) ∧ (¬ g = 0 → N none (hR w s))
abbrev e_X10_comes : NE := (ftX10, [], ltX10, [], [], false, 0, (0, 0), [], [], [], false)
theorem s_X10_comes : mm_Spec e_X10_comes kX10_comes 2 T_X10_comes := by
  rintro N X K av h hK ⟨w, s, g, rfl, rfl, h1, h2⟩
  refine ⟨rfl, hK [] _ _ _ _ _ _ ?_⟩
  refine And.intro (fun q => h2 q) (fun q => ?_)
  exact And.intro (Or.inr rfl) (h1 q)
theorem m_X10_comes (l : Launch) : mm_Met l yX10_comes cX10_comes 2 none 0 0 0 T_X10_comes := mm_met (E := e_X10_comes) (cd := kX10_comes) s_X10_comes (by decide) kX10_comes_ok (by decide +kernel) (by decide +kernel) (Or.inl ⟨rfl, rfl⟩) rfl (mm_eok_X10 _) (mm_calls_nil)
def pDp (x : TP) : PP → PP
  | .inl e => .inl e
  | .inr p => .inl (3, tSt x p)
def pDeep (x : TP) (o : Nat) (P : PP) : PP := if o = 6 then pDp x P else P
def T_X10_opens : Tr := fun av h N _ => ∃ (w : FW) (s : RS) (x : TP) (P : PP) (o : Nat), av = [mR 1000] ∧ h = hR w s ∧ TPR x s ∧ PX x s P ∧ s.1 37 = (o : Nat) ∧ o ≤ 100 ∧ ∀ s' : RS, FR (37 :: F6) [] [] s s' → PX x s' (pNx x (pDeep x o P)) → s'.1 37 = ((o + 1 : Nat) : Int) → N none (hR w s')
abbrev e_X10_opens : NE := (ftX10, [(250, (2, 0, 0, false, (0, 10), T_X10_wrong)), (253, (1, 0, 0, false, (0, 10), T_X10_pass))], ltX10, [], [], false, 0, (0, 0), [], [], [], false)
theorem s_X10_opens : mm_Spec e_X10_opens kX10_opens 1 T_X10_opens := by
  rintro N X K av h hK ⟨w, s, x, P, o, rfl, rfl, hT, hP, ho, ho100, h2⟩
  have fin : ∀ (s1 : RS) (P1 : PP), FR (37 :: F6) [] [] s s1 → s1.1 37 = (o : Nat) → PX x s1 P1 → P1 = (pDeep x o P) → K 14 [some (mR 1000)] [] (hR w s1) 0 0 := by
    intro s1 P1 hF h37 hP1 e
    rw [← e] at h2
    refine hK [] _ _ _ _ _ _ ?_
    conv => whnf
    rw [h37]
    refine And.intro (rng_of (by omega) (by omega)) ?_
    exact ⟨w, sI s1 37 ((o : Int) + 1), x, P1, rfl, rfl, TPR_fr (s' := s1) hT hF rfl rfl, PX_fr hP1 (FR_I (I := [37]) (A := []) (L := []) (FR_rf s1) rfl) rfl, fun s' hF2 hk => h2 s' (FR_tr (FR_I hF rfl) hF2 rfl rfl rfl) hk (hF2.1 37 rfl)⟩
  refine ⟨rfl, hK [14] _ _ _ _ _ _ ?_⟩
  refine And.intro (fun q => ?_) (fun q => ?_)
  · exact fin s P (FR_rf s) ho hP (by unfold pDeep; rw [if_neg (by omega)])
  · refine ⟨w, s, 3, rfl, rfl, fun z => ?_, fun z => ?_⟩
    · cases P with
      | inl e => exact fin s (.inl e) (FR_rf s) ho hP (by unfold pDeep; rw [if_pos (by omega)]; rfl)
      | inr p => exact absurd hP.1 z
    · cases P with
      | inl e =>
        have p1 := hP.1
        have p2 := hP.2.1
        omega
      | inr p => exact fin _ (.inl (3, tSt x p)) (FR_I (FR_I (FR_rf s) rfl) rfl) ho (PX_wrong (k := 3) hT hP (by omega)) (by unfold pDeep; rw [if_pos (by omega)]; rfl)
theorem m_X10_opens (l : Launch) : mm_Met l yX10_opens cX10_opens 1 none 3 0 0 T_X10_opens := mm_met (E := e_X10_opens) (cd := kX10_opens) s_X10_opens (by decide) kX10_opens_ok (by decide +kernel) (by decide +kernel) (Or.inl ⟨rfl, rfl⟩) rfl (mm_eok_X10 _) (mm_calls_cons (mm_cbv wi_X10_wrong (tb6 (i := 220) rfl rfl) (m_X10_wrong l) (by decide) (by decide) rfl) (mm_calls_cons (mm_cbv wi_X10_pass (tb6 (i := 224) rfl rfl) (m_X10_pass l) (by decide) (by decide) rfl) (mm_calls_nil)))
def T_X10_zero : Tr := fun av h N _ => ∃ (w : FW) (s : RS), av = [mR 1000] ∧ h = hR w s ∧ ∀ v : Int → Int64, (∀ i : Int, v i = if 8192 ≤ i ∧ i < 8448 then 0 else s.2.2 24 i) → N (some (mI 32)) (hR w (sL s 24 v))
abbrev e_X10_zero : NE := (ftX10, [(155, (2, 0, 0, false, (0, 10), T_X10_clear))], ltX10, [], [], false, 1, (0, 0), [], [], [], false)
theorem s_X10_zero : mm_Spec e_X10_zero kX10_zero 1 T_X10_zero := by
  rintro N X K av h hK ⟨w, s, rfl, rfl, h2⟩
  refine ⟨rfl, hK [] _ _ _ _ _ _ ?_⟩
  exact ⟨w, s, 32, rfl, rfl, by omega, fun v hv => h2 v (fun i => by rw [hv]; rfl)⟩
theorem m_X10_zero (l : Launch) : mm_Met l yX10_zero cX10_zero 1 (some .int) 2 0 0 T_X10_zero := mm_met (E := e_X10_zero) (cd := kX10_zero) s_X10_zero (by decide) kX10_zero_ok (by decide +kernel) (by decide +kernel) (Or.inr (Or.inl ⟨rfl, rfl⟩)) rfl (mm_eok_X10 _) (mm_calls_cons (mm_cbv wi_X10_clear (tb5 (i := 234) rfl rfl) (m_X10_clear l) (by decide) (by decide) rfl) (mm_calls_nil))
/-! values on the slots -/
def RSt (f : Nat) (s : RS) : List VL → Prop
  | [] => True
  | V :: L => (∀ t : Nat, t < fD f → s.2.2 24 (256 * ((8 + L.length : Nat) : Int) + t) = V t) ∧ (∀ t : Nat, fD f ≤ t → t < 256 → s.2.2 24 (256 * ((8 + L.length : Nat) : Int) + t) = 0) ∧ RSt f s L
theorem RSt_low {f : Nat} {s s' : RS} (hf : fD f ≤ 256) : ∀ {L : List VL}, (∀ i : Int, i < 256 * ((8 + L.length : Nat) : Int) → s'.2.2 24 i = s.2.2 24 i) → RSt f s L → RSt f s' L
  | [], _, _ => trivial
  | V :: L, h, hs => by
    have hl : ((8 + (V :: L).length : Nat) : Int) = ((8 + L.length : Nat) : Int) + 1 := by simp only [List.length_cons]; omega
    rw [hl] at h
    exact ⟨fun t ht => by rw [h _ (by omega)]; exact hs.1 t ht, fun t ht ht2 => by rw [h _ (by omega)]; exact hs.2.1 t ht ht2, RSt_low hf (fun i hi => h i (by omega)) hs.2.2⟩
def RE (f : Nat) (s : RS) (E : Option (List VL)) (n : Nat) : Prop := (s.1 39 = 0 ∨ s.1 39 = 1) ∧ (s.1 40 = 0 ∨ s.1 40 = 1) ∧ match E with
  | some L => s.1 39 = 1 ∧ s.1 40 = 0 ∧ L.length = n ∧ RSt f s L
  | none => s.1 39 = 0 ∨ s.1 40 = 1
theorem RE_fr {f n : Nat} {E : Option (List VL)} {s s' : RS} (h : RE f s E n) (h39 : s'.1 39 = s.1 39) (h40 : s'.1 40 = s.1 40) (h24 : s'.2.2 24 = s.2.2 24) (hf : fD f ≤ 256) : RE f s' E n := by
  refine ⟨by rw [h39]; exact h.1, by rw [h40]; exact h.2.1, ?_⟩
  cases E with
  | none => rw [h39, h40]; exact h.2.2
  | some L => exact ⟨h39.trans h.2.2.1, h40.trans h.2.2.2.1, h.2.2.2.2.1, RSt_low hf (fun i _ => by rw [h24]) h.2.2.2.2.2⟩
theorem RE_none {f n m : Nat} {s : RS} (h : RE f s none n) : RE f s none m := h
theorem RE_pop {f n : Nat} {V : VL} {L : List VL} {s : RS} (h : RE f s (some (V :: L)) (n + 1)) : RE f s (some L) n ∧ ∀ t : Nat, t < fD f → s.2.2 24 (256 * ((8 + n : Nat) : Int) + t) = V t := by
  obtain ⟨a, b, c, d, e, g⟩ := h
  have hl : L.length = n := by simpa using e
  refine ⟨⟨a, b, c, d, hl, g.2.2⟩, ?_⟩
  rw [← hl]
  exact g.1
theorem RE_mk {f n : Nat} {V : VL} {L : List VL} {s s' : RS} (hf : fD f ≤ 256) (h : RE f s (some L) n) (h39 : s'.1 39 = s.1 39) (h40 : s'.1 40 = if small f V then 0 else 1) (hlow : ∀ i : Int, i < 256 * ((8 + n : Nat) : Int) → s'.2.2 24 i = s.2.2 24 i) (hV : small f V → ∀ t : Nat, t < fD f → s'.2.2 24 (256 * ((8 + n : Nat) : Int) + t) = V t) (hZ : ∀ t : Nat, fD f ≤ t → t < 256 → s'.2.2 24 (256 * ((8 + n : Nat) : Int) + t) = 0) : RE f s' (tst f V L) (n + 1) := by
  obtain ⟨a, b, c, d, e, g⟩ := h
  unfold tst
  by_cases q : small f V
  · rw [if_pos q] at h40 ⊢
    refine ⟨by rw [h39]; exact a, Or.inl h40, h39.trans c, h40, by simp [e], ?_, ?_, RSt_low hf (by rw [e]; exact hlow) g⟩
    · rw [e]
      exact hV q
    · rw [e]
      exact hZ
  · rw [if_neg q] at h40 ⊢
    exact ⟨by rw [h39]; exact a, Or.inr h40, Or.inr h40⟩
theorem going_some {f n : Nat} {L : List VL} {s : RS} (h : RE f s (some L) n) (h34 : s.1 34 = 0) : bi (¬ s.1 39 = 0 ∧ s.1 34 = 0 ∧ s.1 40 = 0) = 1 := bi_t ⟨by rw [h.2.2.1]; decide, h34, h.2.2.2.1⟩
theorem going_none {f n : Nat} {s : RS} (h : RE f s none n) : bi (¬ s.1 39 = 0 ∧ s.1 34 = 0 ∧ s.1 40 = 0) = 0 := bi_f (fun z => by
  rcases h.2.2 with q | q
  · exact z.1 q
  · have := z.2.2; omega)
theorem going_bad {x : TP} {e : Nat × Nat} {s : RS} (h : PX x s (.inl e)) : bi (¬ s.1 39 = 0 ∧ s.1 34 = 0 ∧ s.1 40 = 0) = 0 := bi_f (fun z => by
  have h1 := h.1
  have h2 := h.2.1
  have := z.2.1
  omega)
