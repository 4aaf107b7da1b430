/-! the component itself: its world, and what each call asks first -/
def CR (a : AS) (c : CS) : Prop := AO a ∧ CFG (aF a) c ∧ (c.1 4 = (fM (aF a) : Nat) ∧ c.1 5 = (fG (aF a) : Nat) ∧ TW c) ∧ CPl a c ∧ (∀ x : Nat, x < 27 → c.2.1 16 (x : Int) = aW a x) ∧ (c.1 24 = (aTn a : Nat) ∧ ∀ i : Nat, i < aTn a → c.2.1 17 (i : Int) = aTt a i) ∧ c.1 25 = aFp a ∧ c.1 23 = (aSn a : Nat) ∧ ∀ i : Nat, i < aSn a → c.2.1 34 (i : Int) = aSb a i
/-- 0: the answer; 1: NoSuchElementException; 2: IllegalArgumentException -/
def CP (M : List ME) (a : AS) (p : Nat × Int) (N : Option MV → HP → Prop) (X : String → HP → Prop) : Prop := (p.1 = 0 → ∀ c : CS, CR a c → N (some (mI p.2)) (hC (none, M) c)) ∧ (p.1 = 1 → ∀ c : CS, CR a c → X xN (hC (none, M) c)) ∧ (p.1 = 2 → ∀ c : CS, CR a c → X xI (hC (none, M) c))
theorem CP_0 {M : List ME} {a : AS} {p : Nat × Int} {v : Int} {N : Option MV → HP → Prop} {X : String → HP → Prop} (h : CP M a p N X) (e : p = (0, v)) {c : CS} (hc : CR a c) : N (some (mI v)) (hC (none, M) c) := by
  subst e; exact h.1 rfl c hc
theorem CP_1 {M : List ME} {a : AS} {p : Nat × Int} {N : Option MV → HP → Prop} {X : String → HP → Prop} (h : CP M a p N X) (e : p = (1, 0)) {c : CS} (hc : CR a c) : X xN (hC (none, M) c) := by
  subst e; exact h.2.1 rfl c hc
theorem CP_2 {M : List ME} {a : AS} {p : Nat × Int} {N : Option MV → HP → Prop} {X : String → HP → Prop} (h : CP M a p N X) (e : p = (2, 0)) {c : CS} (hc : CR a c) : X xI (hC (none, M) c) := by
  subst e; exact h.2.2 rfl c hc
def T_X9_isPlace : Tr := fun av h N _ => ∃ i : Int, av = [mR 0, mI i] ∧ N (some (mI (bi (okP i)))) h
abbrev e_X9_isPlace : NE := (ftX9, [], ltX9, [], [], false, 2, (0, 0), [], [], [], true)
theorem s_X9_isPlace : mm_Spec e_X9_isPlace kX9_isPlace 2 T_X9_isPlace := by
  rintro N X K av h hK ⟨i, rfl, h2⟩
  refine ⟨rfl, hK [] _ _ _ _ _ _ ?_⟩
  refine And.intro (fun q => ?_) (fun q => ?_)
  · rw [bi_f (fun z => absurd z.1 (by omega))] at h2
    exact And.intro (Or.inl rfl) h2
  refine And.intro (fun q2 => ?_) (fun q2 => ?_)
  · rw [bi_f (fun z => absurd z.2 (by omega))] at h2
    exact And.intro (Or.inl rfl) h2
  · rw [bi_t ⟨by omega, by omega⟩] at h2
    exact And.intro (Or.inr rfl) h2
theorem m_X9_isPlace (l : Launch) : mm_Met l yX9_isPlace cX9_isPlace 2 (some .boolean) 0 0 0 T_X9_isPlace := mm_met (E := e_X9_isPlace) (cd := kX9_isPlace) s_X9_isPlace (by decide) kX9_isPlace_ok (by decide +kernel) (by decide +kernel) (Or.inr (Or.inr (Or.inl ⟨rfl, rfl⟩))) rfl (mm_eok_X9 _) (mm_calls_nil)
def T_X9_needElement : Tr := fun av h N X => ∃ (M : List ME) (c : CS) (f : Nat) (x : Int), av = [mR 0, mI x] ∧ h = hC (none, M) c ∧ CF0 f c ∧ (okE f x → N none h) ∧ (¬ okE f x → X xN h)
abbrev e_X9_needElement : NE := (ftX9, [(343, (2, 0, 0, false, (0, 1), T_X1_has))], ltX9, [], [], false, 0, (1, 6), [], [], [(11, xN)], true)
theorem s_X9_needElement : mm_Spec e_X9_needElement kX9_needElement 2 T_X9_needElement := by
  rintro N X K av h hK ⟨M, c, f, x, rfl, rfl, h0, h1, h2⟩
  refine ⟨rfl, hK [] _ _ _ _ _ _ ?_⟩
  refine ⟨(none, M), c, f, x, rfl, rfl, h0, ?_⟩
  refine And.intro (fun q => ?_) (fun q => ?_)
  · exact h1 (bi_c1 q)
  · exact h2 (bi_c0 (by omega))
theorem m_X9_needElement (l : Launch) (hl : l.stackTraces = false) : mm_MetX l yX9_needElement cX9_needElement 2 none 6 1 6 T_X9_needElement := mm_metX (E := e_X9_needElement) (cd := kX9_needElement) s_X9_needElement (by decide) kX9_needElement_ok (by decide +kernel) (by decide +kernel) (Or.inl ⟨rfl, rfl⟩) rfl hl (by decide) (by decide +kernel) (mm_eokt (mm_eok_X9 _)) (mm_cz_cons (Or.inl (mm_CQ_of (mm_cbv wi_X1_has (tb2 (i := 224) rfl rfl) (m_X1_has l) (by decide) (by decide) rfl))) (mm_cz_nil))
def T_X9_needCharacter : Tr := fun av h N X => ∃ (M : List ME) (c : CS) (f : Nat) (x : Int), av = [mR 0, mI x] ∧ h = hC (none, M) c ∧ CF0 f c ∧ (okC f x → N none h) ∧ (¬ okC f x → X xN h)
abbrev e_X9_needCharacter : NE := (ftX9, [(340, (2, 0, 0, false, (0, 1), T_X1_hasCharacter))], ltX9, [], [], false, 0, (1, 6), [], [], [(11, xN)], true)
theorem s_X9_needCharacter : mm_Spec e_X9_needCharacter kX9_needCharacter 2 T_X9_needCharacter := by
  rintro N X K av h hK ⟨M, c, f, x, rfl, rfl, h0, h1, h2⟩
  refine ⟨rfl, hK [] _ _ _ _ _ _ ?_⟩
  refine ⟨(none, M), c, f, x, rfl, rfl, h0, ?_⟩
  refine And.intro (fun q => ?_) (fun q => ?_)
  · exact h1 (bi_c1 q)
  · exact h2 (bi_c0 (by omega))
theorem m_X9_needCharacter (l : Launch) (hl : l.stackTraces = false) : mm_MetX l yX9_needCharacter cX9_needCharacter 2 none 6 1 6 T_X9_needCharacter := mm_metX (E := e_X9_needCharacter) (cd := kX9_needCharacter) s_X9_needCharacter (by decide) kX9_needCharacter_ok (by decide +kernel) (by decide +kernel) (Or.inl ⟨rfl, rfl⟩) rfl hl (by decide) (by decide +kernel) (mm_eokt (mm_eok_X9 _)) (mm_cz_cons (Or.inl (mm_CQ_of (mm_cbv wi_X1_hasCharacter (tb2 (i := 220) rfl rfl) (m_X1_hasCharacter l) (by decide) (by decide) rfl))) (mm_cz_nil))
def T_X9_needPlace : Tr := fun av h N X => ∃ (M : List ME) (c : CS) (x : Int), av = [mR 0, mI x] ∧ h = hC (none, M) c ∧ (okP x → N none h) ∧ (¬ okP x → X xN h)
abbrev e_X9_needPlace : NE := (ftX9, [(102, (2, 0, 0, false, (0, 9), T_X9_isPlace))], ltX9, [], [], false, 0, (1, 6), [], [], [(8, xN)], true)
theorem s_X9_needPlace : mm_Spec e_X9_needPlace kX9_needPlace 2 T_X9_needPlace := by
  rintro N X K av h hK ⟨M, c, x, rfl, rfl, h1, h2⟩
  refine ⟨rfl, hK [] _ _ _ _ _ _ ?_⟩
  refine ⟨x, rfl, ?_⟩
  refine And.intro (fun q => ?_) (fun q => ?_)
  · exact h1 (bi_c1 q)
  · exact h2 (bi_c0 (by omega))
theorem m_X9_needPlace (l : Launch) (hl : l.stackTraces = false) : mm_MetX l yX9_needPlace cX9_needPlace 2 none 6 1 6 T_X9_needPlace := mm_metX (E := e_X9_needPlace) (cd := kX9_needPlace) s_X9_needPlace (by decide) kX9_needPlace_ok (by decide +kernel) (by decide +kernel) (Or.inl ⟨rfl, rfl⟩) rfl hl (by decide) (by decide +kernel) (mm_eokt (mm_eok_X9 _)) (mm_cz_cons (Or.inl (mm_CQ_of (mm_cbv wi_X9_isPlace (tb2 (i := 212) rfl rfl) (m_X9_isPlace l) (by decide) (by decide) rfl))) (mm_cz_nil))
def T_X9_needExponent : Tr := fun av h N X => ∃ (M : List ME) (c : CS) (x : Int), av = [mR 0, mI x] ∧ h = hC (none, M) c ∧ (ok30 x → N none h) ∧ (¬ ok30 x → X xI h)
abbrev e_X9_needExponent : NE := (ftX9, [], ltX9, [], [], false, 0, (1, 6), [], [], [(11, xI)], true)
theorem s_X9_needExponent : mm_Spec e_X9_needExponent kX9_needExponent 2 T_X9_needExponent := by
  rintro N X K av h hK ⟨M, c, x, rfl, rfl, h1, h2⟩
  refine ⟨rfl, hK [] _ _ _ _ _ _ ?_⟩
  refine And.intro (fun q => ?_) (fun q => ?_)
  · exact h2 (fun z => absurd z.1 (by omega))
  refine And.intro (fun q2 => ?_) (fun q2 => ?_)
  · exact h1 ⟨by omega, by omega⟩
  · exact h2 (fun z => absurd z.2 (by omega))
theorem m_X9_needExponent (l : Launch) (hl : l.stackTraces = false) : mm_MetX l yX9_needExponent cX9_needExponent 2 none 6 1 6 T_X9_needExponent := mm_metX (E := e_X9_needExponent) (cd := kX9_needExponent) s_X9_needExponent (by decide) kX9_needExponent_ok (by decide +kernel) (by decide +kernel) (Or.inl ⟨rfl, rfl⟩) rfl hl (by decide) (by decide +kernel) (mm_eokt (mm_eok_X9 _)) (mm_cz_nil)
