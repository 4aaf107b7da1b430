/-! the component's plain answers -/
theorem CR_0 {a : AS} {c : CS} (h : CR a c) : CF0 (aF a) c := h.2.1.1.1
def T_X9_trace : Tr := fun av h N X => ∃ (M : List ME) (c : CS) (a : AS) (x : Int), av = [mR 0, mI x] ∧ h = hC (none, M) c ∧ CR a c ∧ CP M a (xTrace (aF a) x) N X
abbrev e_X9_trace : NE := (ftX9, [(168, (2, 1, 6, true, (0, 9), T_X9_needElement)), (191, (2, 0, 0, false, (0, 1), T_X1_traceOf))], ltX9, [], [], false, 1, (1, 6), [], [], [], true)
theorem s_X9_trace : mm_Spec e_X9_trace kX9_trace 2 T_X9_trace := by
  rintro N X K av h hK ⟨M, c, a, x, rfl, rfl, hc, h2⟩
  refine ⟨rfl, hK [] _ _ _ _ _ _ ?_⟩
  refine ⟨M, c, aF a, x, rfl, rfl, CR_0 hc, fun q => ?_, fun q => ?_⟩
  · obtain ⟨n, rfl⟩ := Int.eq_ofNat_of_zero_le q.1
    refine ⟨(none, M), c, aF a, n, rfl, rfl, CR_0 hc, hc.2.1.1.2.2.2.2.2, by omega, ?_⟩
    exact CP_0 h2 (if_pos q) hc
  · exact CP_1 h2 (if_neg q) hc
theorem m_X9_trace (l : Launch) (hl : l.stackTraces = false) : mm_MetX l yX9_trace cX9_trace 2 (some .int) 7 1 6 T_X9_trace := mm_metX (E := e_X9_trace) (cd := kX9_trace) s_X9_trace (by decide) kX9_trace_ok (by decide +kernel) (by decide +kernel) (Or.inr (Or.inl ⟨rfl, rfl⟩)) rfl hl (by decide) (by decide +kernel) (mm_eokt (mm_eok_X9 _)) (mm_cz_cons (Or.inr (mm_cxv wi_X9_needElement (tb4 (i := 112) rfl rfl) (m_X9_needElement l hl) (by decide) (by decide) rfl)) (mm_cz_cons (Or.inl (mm_CQ_of (mm_cbv wi_X1_traceOf (tb4 (i := 138) rfl rfl) (m_X1_traceOf l) (by decide) (by decide) rfl))) (mm_cz_nil)))
def T_X9_log : Tr := fun av h N X => ∃ (M : List ME) (c : CS) (a : AS) (x : Int), av = [mR 0, mI x] ∧ h = hC (none, M) c ∧ CR a c ∧ CP M a (xLog (aF a) x) N X
abbrev e_X9_log : NE := (ftX9, [(168, (2, 1, 6, true, (0, 9), T_X9_needElement)), (187, (2, 0, 0, false, (0, 1), T_X1_logOf))], ltX9, [], [], false, 1, (2, 12), [], [], [(9, xN)], true)
theorem s_X9_log : mm_Spec e_X9_log kX9_log 2 T_X9_log := by
  rintro N X K av h hK ⟨M, c, a, x, rfl, rfl, hc, h2⟩
  refine ⟨rfl, hK [] _ _ _ _ _ _ ?_⟩
  refine ⟨M, c, aF a, x, rfl, rfl, CR_0 hc, fun q => ?_, fun q => ?_⟩
  · obtain ⟨n, rfl⟩ := Int.eq_ofNat_of_zero_le q.1
    refine And.intro (fun q2 => ?_) (fun q2 => ?_)
    · refine ⟨(none, M), c, aF a, n, rfl, rfl, CR_0 hc, hc.2.1.1.2.2.2.2.1, by omega, by omega, ?_⟩
      exact CP_0 h2 (if_pos ⟨q, by omega⟩) hc
    · exact CP_1 h2 (if_neg (fun z => absurd z.2 (by omega))) hc
  · exact CP_1 h2 (if_neg (fun z => q z.1)) hc
theorem m_X9_log (l : Launch) (hl : l.stackTraces = false) : mm_MetX l yX9_log cX9_log 2 (some .int) 7 2 12 T_X9_log := mm_metX (E := e_X9_log) (cd := kX9_log) s_X9_log (by decide) kX9_log_ok (by decide +kernel) (by decide +kernel) (Or.inr (Or.inl ⟨rfl, rfl⟩)) rfl hl (by decide) (by decide +kernel) (mm_eokt (mm_eok_X9 _)) (mm_cz_cons (Or.inr (mm_cxv wi_X9_needElement (tb4 (i := 112) rfl rfl) (m_X9_needElement l hl) (by decide) (by decide) rfl)) (mm_cz_cons (Or.inl (mm_CQ_of (mm_cbv wi_X1_logOf (tb4 (i := 130) rfl rfl) (m_X1_logOf l) (by decide) (by decide) rfl))) (mm_cz_nil)))
def T_X9_character : Tr := fun av h N X => ∃ (M : List ME) (c : CS) (a : AS) (j x : Int), av = [mR 0, mI j, mI x] ∧ h = hC (none, M) c ∧ CR a c ∧ CP M a (xCharacter (aF a) j x) N X
theorem chI_oI (f j x : Nat) : oI (chE f j x) = chI f j x := by
  unfold oI chI
  split <;> simp_all
abbrev e_X9_character : NE := (ftX9, [(194, (2, 1, 6, true, (0, 9), T_X9_needCharacter)), (168, (2, 1, 6, true, (0, 9), T_X9_needElement)), (197, (3, 0, 0, false, (0, 6), T_X6_characterAt))], ltX9, [], [], false, 1, (2, 12), [], [], [], true)
theorem s_X9_character : mm_Spec e_X9_character kX9_character 3 T_X9_character := by
  rintro N X K av h hK ⟨M, c, a, j, x, rfl, rfl, hc, h2⟩
  have hb := fbase hc.1.1
  refine ⟨rfl, hK [] _ _ _ _ _ _ ?_⟩
  refine ⟨M, c, aF a, j, rfl, rfl, CR_0 hc, fun q => ?_, fun q => ?_⟩
  · refine ⟨M, c, aF a, x, rfl, rfl, CR_0 hc, fun q2 => ?_, fun q2 => ?_⟩
    · obtain ⟨n, rfl⟩ := Int.eq_ofNat_of_zero_le q.1
      obtain ⟨m, rfl⟩ := Int.eq_ofNat_of_zero_le q2.1
      refine ⟨(none, M), c, aF a, n, m, rfl, rfl, hc.2.1, by omega, by omega, ?_⟩
      rw [chI_oI]
      exact CP_0 h2 (if_pos ⟨q, q2⟩) hc
    · exact CP_1 h2 (if_neg (fun z => q2 z.2)) hc
  · exact CP_1 h2 (if_neg (fun z => q z.1)) hc
theorem m_X9_character (l : Launch) (hl : l.stackTraces = false) : mm_MetX l yX9_character cX9_character 3 (some .int) 7 2 12 T_X9_character := mm_metX (E := e_X9_character) (cd := kX9_character) s_X9_character (by decide) kX9_character_ok (by decide +kernel) (by decide +kernel) (Or.inr (Or.inl ⟨rfl, rfl⟩)) rfl hl (by decide) (by decide +kernel) (mm_eokt (mm_eok_X9 _)) (mm_cz_cons (Or.inr (mm_cxv wi_X9_needCharacter (tb4 (i := 146) rfl rfl) (m_X9_needCharacter l hl) (by decide) (by decide) rfl)) (mm_cz_cons (Or.inr (mm_cxv wi_X9_needElement (tb4 (i := 112) rfl rfl) (m_X9_needElement l hl) (by decide) (by decide) rfl)) (mm_cz_cons (Or.inl (mm_CQ_of (mm_cbv wi_X6_characterAt (tb4 (i := 151) rfl rfl) (m_X6_characterAt l) (by decide) (by decide) rfl))) (mm_cz_nil))))
def T_X9_element : Tr := fun av h N X => ∃ (M : List ME) (c : CS) (a : AS) (o x y : Int), av = [mR 0, mI o, mI x, mI y] ∧ h = hC (none, M) c ∧ CR a c ∧ CP M a (xElement (aF a) o x y) N X
abbrev e_X9_element : NE := (ftX9, [(168, (2, 1, 6, true, (0, 9), T_X9_needElement)), (171, (3, 0, 0, false, (0, 1), T_X1_plus)), (174, (3, 0, 0, false, (0, 1), T_X1_minus)), (177, (3, 0, 0, false, (0, 1), T_X1_times)), (180, (3, 0, 0, false, (0, 1), T_X1_over))], ltX9, [], [], false, 1, (3, 18), [], [], [(73, xN)], true)
theorem s_X9_element : mm_Spec e_X9_element kX9_element 4 T_X9_element := by
  rintro N X K av h hK ⟨M, c, a, o, x, y, rfl, rfl, hc, h2⟩
  have hf := CR_0 hc
  refine ⟨rfl, hK [] _ _ _ _ _ _ ?_⟩
  refine ⟨M, c, aF a, x, rfl, rfl, hf, fun q => ?_, fun q => ?_⟩
  · refine ⟨M, c, aF a, y, rfl, rfl, hf, fun q2 => ?_, fun q2 => ?_⟩
    · obtain ⟨n, rfl⟩ := Int.eq_ofNat_of_zero_le q.1
      obtain ⟨m, rfl⟩ := Int.eq_ofNat_of_zero_le q2.1
      have hx : xElement (aF a) o n m = if (0 ≤ o ∧ o ≤ 3) ∧ okE (aF a) n ∧ okE (aF a) m ∧ ¬ (o = 3 ∧ (m : Int) = 0) then ((0, if o = 0 then (fsum (aF a) n m : Nat) else if o = 1 then (rdif (aF a) n m : Nat) else if o = 2 then (fprd (aF a) n m : Nat) else (rquo (aF a) n m : Nat)) : Nat × Int) else (1, 0) := rfl
      refine And.intro (fun c1 => ?_) (fun c1 => ?_)
      · refine And.intro (fun c2 => ?_) (fun c2 => ?_)
        · refine And.intro (fun c3 => ?_) (fun c3 => ?_)
          · refine And.intro (fun c4 => ?_) (fun c4 => ?_)
            · exact CP_1 h2 (hx.trans (if_neg (fun z => by have := z.1; omega))) hc
            · refine And.intro (fun c5 => ?_) (fun c5 => ?_)
              · exact CP_1 h2 (hx.trans (if_neg (fun z => z.2.2.2 ⟨by omega, c5⟩))) hc
              · refine ⟨(none, M), c, aF a, n, m, rfl, rfl, hf, hc.2.1.1.2.2.2.1, hc.2.1.1.2.2.2.2.1, by omega, by omega, by omega, ?_⟩
                exact CP_0 h2 (by rw [hx, if_pos ⟨by omega, q, q2, fun z => c5 z.2⟩, if_neg c1, if_neg c2, if_neg c3]) hc
          · refine ⟨(none, M), c, aF a, n, m, rfl, rfl, hf, hc.2.1.1.2.2.2.1, by omega, by omega, ?_⟩
            exact CP_0 h2 (by rw [hx, if_pos ⟨by omega, q, q2, fun z => by omega⟩, if_neg c1, if_neg c2, if_pos (by omega)]) hc
        · refine ⟨(none, M), c, aF a, n, m, rfl, rfl, hf, hc.2.1.1.2.1, hc.2.1.1.2.2.1, by omega, by omega, ?_⟩
          exact CP_0 h2 (by rw [hx, if_pos ⟨by omega, q, q2, fun z => by omega⟩, if_neg c1, if_pos (by omega), (rdif_at hc.1.1 (by omega) (by omega)).2.2]) hc
      · refine ⟨(none, M), c, aF a, n, m, rfl, rfl, hf, hc.2.1.1.2.1, by omega, by omega, ?_⟩
        exact CP_0 h2 (by rw [hx, if_pos ⟨by omega, q, q2, fun z => by omega⟩, if_pos (by omega)]) hc
    · exact CP_1 h2 (if_neg (fun z => q2 z.2.2.1)) hc
  · exact CP_1 h2 (if_neg (fun z => q z.2.1)) hc
theorem m_X9_element (l : Launch) (hl : l.stackTraces = false) : mm_MetX l yX9_element cX9_element 4 (some .int) 7 3 18 T_X9_element := mm_metX (E := e_X9_element) (cd := kX9_element) s_X9_element (by decide) kX9_element_ok (by decide +kernel) (by decide +kernel) (Or.inr (Or.inl ⟨rfl, rfl⟩)) rfl hl (by decide) (by decide +kernel) (mm_eokt (mm_eok_X9 _)) (mm_cz_cons (Or.inr (mm_cxv wi_X9_needElement (tb4 (i := 112) rfl rfl) (m_X9_needElement l hl) (by decide) (by decide) rfl)) (mm_cz_cons (Or.inl (mm_CQ_of (mm_cbv wi_X1_plus (tb4 (i := 117) rfl rfl) (m_X1_plus l) (by decide) (by decide) rfl))) (mm_cz_cons (Or.inl (mm_CQ_of (mm_cbv wi_X1_minus (tb4 (i := 118) rfl rfl) (m_X1_minus l) (by decide) (by decide) rfl))) (mm_cz_cons (Or.inl (mm_CQ_of (mm_cbv wi_X1_times (tb4 (i := 119) rfl rfl) (m_X1_times l) (by decide) (by decide) rfl))) (mm_cz_cons (Or.inl (mm_CQ_of (mm_cbv wi_X1_over (tb4 (i := 120) rfl rfl) (m_X1_over l) (by decide) (by decide) rfl))) (mm_cz_nil))))))
def T_X9_coefficient : Tr := fun av h N X => ∃ (M : List ME) (c : CS) (a : AS) (p i : Int), av = [mR 0, mI p, mI i] ∧ h = hC (none, M) c ∧ CR a c ∧ CP M a (xCoefficient a p i) N X
abbrev e_X9_coefficient : NE := (ftX9, [(200, (2, 1, 6, true, (0, 9), T_X9_needPlace))], ltX9, [], [], false, 1, (2, 12), [], [], [(20, xN)], true)
theorem s_X9_coefficient : mm_Spec e_X9_coefficient kX9_coefficient 3 T_X9_coefficient := by
  rintro N X K av h hK ⟨M, c, a, p, i, rfl, rfl, hc, h2⟩
  have hd : c.1 7 = (fD (aF a) : Nat) := hc.2.1.2.2.2.1
  have hb := fbase hc.1.1
  refine ⟨rfl, hK [] _ _ _ _ _ _ ?_⟩
  refine ⟨M, c, p, rfl, rfl, fun q => ?_, fun q => ?_⟩
  · refine And.intro (fun c1 => ?_) (fun c1 => ?_)
    · exact CP_1 h2 (if_neg (fun z => absurd z.2.1 (by omega))) hc
    conv => whnf
    rw [hd]
    refine And.intro (fun c2 => ?_) (fun c2 => ?_)
    · obtain ⟨n, rfl⟩ := Int.eq_ofNat_of_zero_le q.1
      obtain ⟨m, rfl⟩ := Int.eq_ofNat_of_zero_le (show 0 ≤ i by omega)
      refine And.intro (by omega) ?_
      have := hc.2.2.2.1 n m (by omega) (by omega)
      refine And.intro ⟨by show 0 + n < 24; omega, by omega, by omega⟩ ?_
      show N (some (mI (c.2.2.2.1 (0 + n) (m : Int)))) (hC (none, M) c)
      rw [Nat.zero_add, this]
      exact CP_0 h2 (if_pos ⟨q, by omega, by omega⟩) hc
    · exact CP_1 h2 (if_neg (fun z => absurd z.2.2 (by omega))) hc
  · exact CP_1 h2 (if_neg (fun z => q z.1)) hc
theorem m_X9_coefficient (l : Launch) (hl : l.stackTraces = false) : mm_MetX l yX9_coefficient cX9_coefficient 3 (some .int) 7 2 12 T_X9_coefficient := mm_metX (E := e_X9_coefficient) (cd := kX9_coefficient) s_X9_coefficient (by decide) kX9_coefficient_ok (by decide +kernel) (by decide +kernel) (Or.inr (Or.inl ⟨rfl, rfl⟩)) rfl hl (by decide) (by decide +kernel) (mm_eokt (mm_eok_X9 _)) (mm_cz_cons (Or.inr (mm_cxv wi_X9_needPlace (tb4 (i := 166) rfl rfl) (m_X9_needPlace l hl) (by decide) (by decide) rfl)) (mm_cz_nil))
def T_X9_fault : Tr := fun av h N _ => ∃ (M : List ME) (c : CS) (a : AS), av = [mR 0] ∧ h = hC (none, M) c ∧ CR a c ∧ N (some (mI (aFp a))) h
abbrev e_X9_fault : NE := (ftX9, [], ltX9, [], [], false, 1, (0, 0), [], [], [], true)
theorem s_X9_fault : mm_Spec e_X9_fault kX9_fault 1 T_X9_fault := by
  rintro N X K av h hK ⟨M, c, a, rfl, rfl, hc, h2⟩
  refine ⟨rfl, hK [] _ _ _ _ _ _ ?_⟩
  rw [← hc.2.2.2.2.2.2.1] at h2
  exact h2
theorem m_X9_fault (l : Launch) : mm_Met l yX9_fault cX9_fault 1 (some .int) 0 0 0 T_X9_fault := mm_met (E := e_X9_fault) (cd := kX9_fault) s_X9_fault (by decide) kX9_fault_ok (by decide +kernel) (by decide +kernel) (Or.inr (Or.inl ⟨rfl, rfl⟩)) rfl (mm_eok_X9 _) (mm_calls_nil)
def T_X9_said : Tr := fun av h N _ => ∃ (M : List ME) (c : CS) (a : AS) (i : Int), av = [mR 0, mI i] ∧ h = hC (none, M) c ∧ CR a c ∧ N (some (mI (xSaid a i))) h
abbrev e_X9_said : NE := (ftX9, [(327, (2, 0, 0, false, (0, 5), T_X5_byteAt))], ltX9, [], [], false, 1, (0, 0), [], [], [], true)
theorem s_X9_said : mm_Spec e_X9_said kX9_said 2 T_X9_said := by
  rintro N X K av h hK ⟨M, c, a, i, rfl, rfl, hc, h2⟩
  have hs := hc.2.2.2.2.2.2.2
  refine ⟨rfl, hK [] _ _ _ _ _ _ ?_⟩
  refine ⟨(none, M), c, aSn a, i, rfl, rfl, hs.1, hc.1.2.2.2.2.2.2.1, ?_⟩
  have e1 : (if 0 ≤ i ∧ i < (aSn a : Int) then c.2.1 34 i else -1) = xSaid a i := by
    unfold xSaid
    by_cases q : 0 ≤ i ∧ i < (aSn a : Int)
    · rw [if_pos q, if_pos q]
      obtain ⟨n, rfl⟩ := Int.eq_ofNat_of_zero_le q.1
      exact hs.2 n (by omega)
    · rw [if_neg q, if_neg q]
  rw [e1]
  exact h2
theorem m_X9_said (l : Launch) : mm_Met l yX9_said cX9_said 2 (some .int) 1 0 0 T_X9_said := mm_met (E := e_X9_said) (cd := kX9_said) s_X9_said (by decide) kX9_said_ok (by decide +kernel) (by decide +kernel) (Or.inr (Or.inl ⟨rfl, rfl⟩)) rfl (mm_eok_X9 _) (mm_calls_cons (mm_cbv wi_X5_byteAt (tb3 (i := 95) rfl rfl) (m_X5_byteAt l) (by decide) (by decide) rfl) (mm_calls_nil))
def T_X9_count : Tr := fun av h N X => ∃ (M : List ME) (c : CS) (a : AS) (i : Int), av = [mR 0, mI i] ∧ h = hC (none, M) c ∧ CR a c ∧ mm_rng i ∧ CP M a (xCount a i) N X
abbrev e_X9_count : NE := (ftX9, [], ltX9, [], [], false, 1, (1, 6), [], [], [(109, xN)], true)
theorem s_X9_count : mm_Spec e_X9_count kX9_count 2 T_X9_count := by
  rintro N X K av h hK ⟨M, c, a, i, rfl, rfl, hc, hi, h2⟩
  have hf := CR_0 hc
  have hg := hc.2.1.2
  have hv : ∀ v v' : Int, xCount a i = (0, v) → v' = v → N (some (mI v')) (hC (none, M) c) := fun v v' e e2 => by
    rw [e2]
    exact CP_0 h2 e hc
  refine ⟨rfl, hK [] _ _ _ _ _ _ ?_⟩
  refine ⟨fun q => ?_, fun q => ?_, fun q => ?_, fun q => ?_, fun q => ?_, fun q => ?_, fun q => ?_, fun q => ?_, fun q => ?_, trivial⟩
  · exact CP_1 h2 (by unfold xCount; rw [if_neg (by omega), if_neg (by omega), if_neg (by omega), if_neg (by omega), if_neg (by omega), if_neg (by omega), if_neg (by omega), if_neg (by omega)]) hc
  · subst q; exact hv _ _ rfl hf.2.1
  · subst q; exact hv _ _ rfl hf.2.2.1
  · subst q; exact hv _ _ rfl hf.2.2.2
  · subst q; exact hv _ _ rfl hg.2.1
  · subst q; exact hv _ _ rfl hg.2.2.1
  · subst q; exact hv _ _ rfl hc.2.2.1.2.1
  · subst q; exact hv _ _ rfl hc.2.2.1.1
  · subst q; exact hv _ _ rfl hc.2.2.2.2.2.1.1
theorem m_X9_count (l : Launch) (hl : l.stackTraces = false) : mm_MetX l yX9_count cX9_count 2 (some .int) 6 1 6 T_X9_count := mm_metX (E := e_X9_count) (cd := kX9_count) s_X9_count (by decide) kX9_count_ok (by decide +kernel) (by decide +kernel) (Or.inr (Or.inl ⟨rfl, rfl⟩)) rfl hl (by decide) (by decide +kernel) (mm_eokt (mm_eok_X9 _)) (mm_cz_nil)
