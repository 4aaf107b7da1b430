/-! the reference: its state as a whole; the smaller public methods -/
def RR (a : AS) (s : RS) : Prop := AO a ∧ RA (aF a) s ∧ s.1 5 = (fM (aF a) : Nat) ∧ s.1 6 = (fG (aF a) : Nat) ∧ (∀ i t : Nat, i < 8 → t < 256 → s.2.2 24 (256 * (i : Int) + t) = if t < fD (aF a) then Int64.ofInt (aP a i t) else 0) ∧ (∀ x : Nat, x < fQ (aF a) → s.2.1 26 (x : Int) = aW a x) ∧ s.1 28 = (aTn a : Nat) ∧ (∀ i : Nat, i < aTn a → s.2.1 27 (i : Int) = aTt a i) ∧ s.1 36 = aFp a ∧ s.1 52 = (aSn a : Nat) ∧ (∀ i : Nat, i < aSn a → s.2.1 51 (i : Int) = aSb a i) ∧ ∀ j : Nat, j < 9 → s.2.1 0 (j : Int) = mm_primes j
def RP (w : FW) (a : AS) (r : Nat × Int) (N : Option MV → HP → Prop) : Prop := ∀ s' : RS, RR a s' → s'.1 1 = (r.1 : Nat) → N (some (mI r.2)) (hR w s')
def RPL (w : FW) (a : AS) (r : Nat × Int64) (N : Option MV → HP → Prop) : Prop := ∀ s' : RS, RR a s' → s'.1 1 = (r.1 : Nat) → N (some (mL r.2)) (hR w s')
theorem RR_fr {a : AS} {I A L : List Nat} {s s' : RS} (h : RR a s) (hF : FR I A L s s') (hI : [2, 3, 4, 5, 6, 14, 15, 28, 36, 52].all (fun j => !(mm_mem j I)) = true) (hA : [0, 7, 8, 9, 10, 12, 26, 27, 51].all (fun j => !(mm_mem j A)) = true) (hL : mm_mem 16 L = false) (hV : ∀ i t : Nat, i < 8 → t < 256 → s'.2.2 24 (256 * (i : Int) + t) = s.2.2 24 (256 * (i : Int) + t)) : RR a s' := by
  obtain ⟨h0, h1, h2, h3, h4, h5, h6, h7, h8, h9, h10, h11⟩ := h
  simp only [List.all_cons, List.all_nil, Bool.and_eq_true, Bool.not_eq_true'] at hI hA
  obtain ⟨i2, i3, i4, i5, i6, i14, i15, i28, i36, i52, -⟩ := hI
  obtain ⟨a0, a7, a8, a9, a10, a12, a26, a27, a51, -⟩ := hA
  refine ⟨h0, RA_fr h1 hF (by simp only [List.all_cons, List.all_nil, Bool.and_eq_true, Bool.not_eq_true']; exact ⟨i2, i3, i4, i14, i15, trivial⟩) (by simp only [List.all_cons, List.all_nil, Bool.and_eq_true, Bool.not_eq_true']; exact ⟨a7, a8, a9, a10, a12, trivial⟩) hL, ?_, ?_, fun i t hi ht => by rw [hV i t hi ht]; exact h4 i t hi ht, ?_, ?_, ?_, ?_, ?_, ?_, ?_⟩
  · rw [hF.1 5 i5]; exact h2
  · rw [hF.1 6 i6]; exact h3
  · rw [hF.2.1 26 a26]; exact h5
  · rw [hF.1 28 i28]; exact h6
  · rw [hF.2.1 27 a27]; exact h7
  · rw [hF.1 36 i36]; exact h8
  · rw [hF.1 52 i52]; exact h9
  · rw [hF.2.1 51 a51]; exact h10
  · rw [hF.2.1 0 a0]; exact h11
theorem slot_of {a : AS} {s : RS} (h : RR a s) {i : Nat} (hi : i < 8) : ∀ t : Nat, t < fD (aF a) → s.2.2 24 (256 * (i : Int) + t) = vL (aP a i) t := by
  intro t ht
  have hb := fbase h.1.1
  rw [h.2.2.2.2.1 i t hi (by omega), if_pos ht]
def T_X10_fail : Tr := fun av h N _ => ∃ (w : FW) (s : RS) (k : Int), av = [mR 1000, mI k] ∧ h = hR w s ∧ N (some (mI 0)) (hR w (sI s 1 k))
abbrev e_X10_fail : NE := (ftX10, [], ltX10, [], [], false, 1, (0, 0), [], [], [], false)
theorem s_X10_fail : mm_Spec e_X10_fail kX10_fail 2 T_X10_fail := by
  rintro N X K av h hK ⟨w, s, k, rfl, rfl, h2⟩
  refine ⟨rfl, hK [] _ _ _ _ _ _ ?_⟩
  exact h2
theorem m_X10_fail (l : Launch) : mm_Met l yX10_fail cX10_fail 2 (some .int) 0 0 0 T_X10_fail := mm_met (E := e_X10_fail) (cd := kX10_fail) s_X10_fail (by decide) kX10_fail_ok (by decide +kernel) (by decide +kernel) (Or.inr (Or.inl ⟨rfl, rfl⟩)) rfl (mm_eok_X10 _) (mm_calls_nil)
def T_X10_thrown : Tr := fun av h N _ => ∃ (w : FW) (s : RS), av = [mR 1000] ∧ h = hR w s ∧ N (some (mI (s.1 1))) (hR w s)
abbrev e_X10_thrown : NE := (ftX10, [], ltX10, [], [], false, 1, (0, 0), [], [], [], false)
theorem s_X10_thrown : mm_Spec e_X10_thrown kX10_thrown 1 T_X10_thrown := by
  rintro N X K av h hK ⟨w, s, rfl, rfl, h2⟩
  refine ⟨rfl, hK [] _ _ _ _ _ _ ?_⟩
  exact h2
theorem m_X10_thrown (l : Launch) : mm_Met l yX10_thrown cX10_thrown 1 (some .int) 0 0 0 T_X10_thrown := mm_met (E := e_X10_thrown) (cd := kX10_thrown) s_X10_thrown (by decide) kX10_thrown_ok (by decide +kernel) (by decide +kernel) (Or.inr (Or.inl ⟨rfl, rfl⟩)) rfl (mm_eok_X10 _) (mm_calls_nil)
theorem lc7 : ((7 : Int64)).toInt = 7 := by decide
theorem lc3 : ((3 : Int64)).toInt = 3 := by decide
theorem lc5 : ((5 : Int64)).toInt = 5 := by decide
theorem lc4 : ((4 : Int64)).toInt = 4 := by decide
def T_X10_isPlace : Tr := fun av h N _ => ∃ i : Int, av = [mI i] ∧ mm_rng i ∧ N (some (mI (bi (okP i)))) h
abbrev e_X10_isPlace : NE := (ftX10, [(162, (3, 0, 0, false, (1, 0), T_X10_isIn))], ltX10, [], [], false, 2, (0, 0), [], [], [], false)
theorem s_X10_isPlace : mm_Spec e_X10_isPlace kX10_isPlace 1 T_X10_isPlace := by
  rintro N X K av h hK ⟨i, rfl, hi, h2⟩
  refine ⟨rfl, hK [] _ _ _ _ _ _ ?_⟩
  refine ⟨_, _, _, rfl, ?_⟩
  rw [l_0, l_of hi, lc7, bi_iff (d := okP i) (by omega)]
  exact And.intro (bi_01 _) h2
theorem m_X10_isPlace (l : Launch) : mm_Met l yX10_isPlace cX10_isPlace 1 (some .boolean) 1 0 0 T_X10_isPlace := mm_met (E := e_X10_isPlace) (cd := kX10_isPlace) s_X10_isPlace (by decide) kX10_isPlace_ok (by decide +kernel) (by decide +kernel) (Or.inr (Or.inr (Or.inl ⟨rfl, rfl⟩))) rfl (mm_eok_X10 _) (mm_calls_cons (mm_cbs wi_X10_isIn (tb6 (i := 177) rfl rfl) (m_X10_isIn l) (by decide) (by decide) rfl) (mm_calls_nil))
def T_X10_fault : Tr := fun av h N _ => ∃ (w : FW) (s : RS) (a : AS), av = [mR 1000] ∧ h = hR w s ∧ RR a s ∧ RP w a (0, aFp a) N
abbrev e_X10_fault : NE := (ftX10, [], ltX10, [], [], false, 1, (0, 0), [], [], [], false)
theorem s_X10_fault : mm_Spec e_X10_fault kX10_fault 1 T_X10_fault := by
  rintro N X K av h hK ⟨w, s, a, rfl, rfl, hr, h2⟩
  refine ⟨rfl, hK [] _ _ _ _ _ _ ?_⟩
  have h36 := hr.2.2.2.2.2.2.2.2.1
  have := h2 (sI s 1 0) hr rfl
  rw [← h36] at this
  exact this
theorem m_X10_fault (l : Launch) : mm_Met l yX10_fault cX10_fault 1 (some .int) 0 0 0 T_X10_fault := mm_met (E := e_X10_fault) (cd := kX10_fault) s_X10_fault (by decide) kX10_fault_ok (by decide +kernel) (by decide +kernel) (Or.inr (Or.inl ⟨rfl, rfl⟩)) rfl (mm_eok_X10 _) (mm_calls_nil)
def T_X10_count : Tr := fun av h N _ => ∃ (w : FW) (s : RS) (a : AS) (x : Int), av = [mR 1000, mI x] ∧ h = hR w s ∧ RR a s ∧ RP w a (xCount a x) N
abbrev e_X10_count : NE := (ftX10, [(373, (2, 0, 0, false, (0, 10), T_X10_fail))], ltX10, [], [], false, 1, (0, 0), [], [], [], false)
theorem s_X10_count : mm_Spec e_X10_count kX10_count 2 T_X10_count := by
  rintro N X K av h hK ⟨w, s, a, x, rfl, rfl, hr, h2⟩
  refine ⟨rfl, hK [] _ _ _ _ _ _ ?_⟩
  have hT := hr.2.1.1
  have hQ := hr.2.1.2.1
  have hc : ∀ v v' : Int, xCount a x = (0, v) → v' = v → N (some (mI v')) (hR w (sI s 1 0)) := fun v v' hv e => by
    rw [hv] at h2
    rw [e]
    exact h2 _ hr rfl
  unfold xCount at hc
  refine And.intro (fun q => ?_) ?_
  · refine ⟨w, sI s 1 0, 1, rfl, rfl, ?_⟩
    have e : xCount a x = (1, 0) := by unfold xCount; simp only [if_neg (show ¬ x = 0 by omega), if_neg (show ¬ x = 1 by omega), if_neg (show ¬ x = 2 by omega), if_neg (show ¬ x = 3 by omega), if_neg (show ¬ x = 4 by omega), if_neg (show ¬ x = 5 by omega), if_neg (show ¬ x = 6 by omega), if_neg (show ¬ x = 7 by omega)]
    rw [e] at h2
    exact h2 _ hr rfl
  refine And.intro (fun q => ?_) ?_
  · exact hc _ _ (by rw [q]; rfl) hT.2.1
  refine And.intro (fun q => ?_) ?_
  · exact hc _ _ (by rw [q]; rfl) hT.2.2.1
  refine And.intro (fun q => ?_) ?_
  · exact hc _ _ (by rw [q]; rfl) hT.2.2.2.1
  refine And.intro (fun q => ?_) ?_
  · exact hc _ _ (by rw [q]; rfl) hQ.2.1
  refine And.intro (fun q => ?_) ?_
  · exact hc _ _ (by rw [q]; rfl) hQ.2.2.1
  refine And.intro (fun q => ?_) ?_
  · exact hc _ _ (by rw [q]; rfl) hr.2.2.2.1
  refine And.intro (fun q => ?_) ?_
  · exact hc _ _ (by rw [q]; rfl) hr.2.2.1
  refine And.intro (fun q => ?_) ?_
  · exact hc _ _ (by rw [q]; rfl) hr.2.2.2.2.2.2.1
  trivial
theorem m_X10_count (l : Launch) : mm_Met l yX10_count cX10_count 2 (some .int) 1 0 0 T_X10_count := mm_met (E := e_X10_count) (cd := kX10_count) s_X10_count (by decide) kX10_count_ok (by decide +kernel) (by decide +kernel) (Or.inr (Or.inl ⟨rfl, rfl⟩)) rfl (mm_eok_X10 _) (mm_calls_cons (mm_cbv wi_X10_fail (tb6 (i := 180) rfl rfl) (m_X10_fail l) (by decide) (by decide) rfl) (mm_calls_nil))
theorem RP_fail {w : FW} {a : AS} {r : Nat × Int} {N : Option MV → HP → Prop} {s : RS} {v : Int} (h : RP w a r N) (hr : RR a s) (hz : r = (1, 0)) : N (some (mI 0)) (hR w (sI (sI s 1 v) 1 1)) := by
  rw [hz] at h
  exact h _ hr rfl
theorem RP_ok {w : FW} {a : AS} {r : Nat × Int} {N : Option MV → HP → Prop} {s : RS} {v v' : Int} (h : RP w a r N) (hr : RR a s) (hz : r = (0, v)) (e : v' = v) : N (some (mI v')) (hR w (sI s 1 0)) := by
  rw [hz] at h
  rw [e]
  exact h _ hr rfl
theorem bi_c0 {c : Prop} [Decidable c] (h : bi c = 0) : ¬ c := bi_eq0.mp h
theorem bi_c1 {c : Prop} [Decidable c] (h : ¬ bi c = 0) : c := bi_ne0.mp h
def T_X10_element : Tr := fun av h N _ => ∃ (w : FW) (s : RS) (a : AS) (o x y : Int), av = [mR 1000, mI o, mI x, mI y] ∧ h = hR w s ∧ RR a s ∧ mm_rng o ∧ mm_rng x ∧ mm_rng y ∧ RP w a (xElement (aF a) o x y) N
abbrev e_X10_element : NE := (ftX10, [(162, (3, 0, 0, false, (1, 0), T_X10_isIn)), (387, (2, 0, 0, false, (0, 10), T_X10_isElement)), (373, (2, 0, 0, false, (0, 10), T_X10_fail)), (139, (3, 0, 0, false, (0, 10), T_X10_sumOf)), (390, (3, 0, 0, false, (0, 10), T_X10_differenceOf)), (126, (3, 0, 0, false, (0, 10), T_X10_productOf)), (206, (3, 0, 0, false, (0, 10), T_X10_quotientOf))], ltX10, [], [], false, 1, (0, 0), [], [], [], false)
theorem s_X10_element : mm_Spec e_X10_element kX10_element 4 T_X10_element := by
  rintro N X K av h hK ⟨w, s, a, o, x, y, rfl, rfl, hr, ho, hx, hy, h2⟩
  have hT : RT (aF a) (sI s 1 0) := hr.2.1.1
  have hb := fbase hr.1.1
  refine ⟨rfl, hK [48] _ _ _ _ _ _ ?_⟩
  refine ⟨_, _, _, rfl, ?_⟩
  rw [l_0, l_of ho, lc3]
  have hno : ¬ ((0 ≤ o ∧ o ≤ 3) ∧ okE (aF a) x ∧ okE (aF a) y ∧ ¬ (o = 3 ∧ y = 0)) → xElement (aF a) o x y = (1, 0) := fun q => by unfold xElement; rw [if_neg q]
  refine And.intro (fun q1 => ?_) (fun q1 => ?_)
  · have q1 := bi_c0 q1
    exact ⟨w, sI s 1 0, 1, rfl, rfl, RP_fail h2 hr (hno (fun z => q1 z.1))⟩
  have q1 := bi_c1 q1
  refine ⟨w, sI s 1 0, x, fQ (aF a), rfl, rfl, hx, hT.2.2.2.1, by omega, ?_⟩
  refine And.intro (fun q2 => ?_) (fun q2 => ?_)
  · have q2 := bi_c0 q2
    exact ⟨w, sI s 1 0, 1, rfl, rfl, RP_fail h2 hr (hno (fun z => q2 z.2.1))⟩
  have q2 := bi_c1 q2
  refine ⟨w, sI s 1 0, y, fQ (aF a), rfl, rfl, hy, hT.2.2.2.1, by omega, ?_⟩
  refine And.intro (fun q3 => ?_) (fun q3 => ?_)
  · have q3 := bi_c0 q3
    exact ⟨w, sI s 1 0, 1, rfl, rfl, RP_fail h2 hr (hno (fun z => q3 z.2.2.1))⟩
  have q3 := bi_c1 q3
  obtain ⟨xn, rfl⟩ := Int.eq_ofNat_of_zero_le q2.1
  obtain ⟨yn, rfl⟩ := Int.eq_ofNat_of_zero_le q3.1
  have hxq : xn < fQ (aF a) := by omega
  have hyq : yn < fQ (aF a) := by omega
  have hyes : ¬ (o = 3 ∧ (yn : Int) = 0) → xElement (aF a) o xn yn = (0, if o = 0 then (fsum (aF a) xn yn : Int) else if o = 1 then (rdif (aF a) xn yn : Int) else if o = 2 then (fprd (aF a) xn yn : Int) else (rquo (aF a) xn yn : Int)) := fun q => by unfold xElement; rw [if_pos ⟨q1, q2, q3, q⟩]; rfl
  have main : ¬ (o = 3 ∧ (yn : Int) = 0) → K 48 [some (mR 1000), some (mI o), some (mI (xn : Int)), some (mI (yn : Int))] [] (hR w (sI s 1 0)) 0 0 := by
    intro qz
    have h3 := hyes qz
    refine hK [] _ _ _ _ _ _ ?_
    refine And.intro (fun z0 => ?_) (fun z0 => ?_)
    · rw [if_neg z0] at h3
      refine And.intro (fun z1 => ?_) (fun z1 => ?_)
      · rw [if_neg z1] at h3
        refine And.intro (fun z2 => ?_) (fun z2 => ?_)
        · rw [if_neg z2] at h3
          refine ⟨w, sI s 1 0, aF a, xn, yn, rfl, rfl, hT, hxq, by omega, hyq, RP_ok h2 hr h3 rfl⟩
        · rw [if_pos z2] at h3
          refine ⟨w, sI s 1 0, xn, yn, rfl, rfl, ⟨by omega, by omega, by omega, by omega⟩, RP_ok h2 hr h3 (hT.2.2.2.2.2 xn yn hxq hyq)⟩
      · rw [if_pos z1] at h3
        exact ⟨w, sI s 1 0, aF a, xn, yn, rfl, rfl, hT, hxq, hyq, RP_ok h2 hr h3 rfl⟩
    · rw [if_pos z0] at h3
      exact ⟨w, sI s 1 0, xn, yn, rfl, rfl, ⟨by omega, by omega, by omega, by omega⟩, RP_ok h2 hr h3 (hT.2.2.2.2.1 xn yn hxq hyq)⟩
  refine And.intro (fun z => main (fun q => z q.1)) (fun z => ?_)
  refine And.intro (fun z2 => main (fun q => z2 q.2)) (fun z2 => ?_)
  exact ⟨w, sI s 1 0, 1, rfl, rfl, RP_fail h2 hr (hno (fun q => q.2.2.2 ⟨z, z2⟩))⟩
theorem m_X10_element (l : Launch) : mm_Met l yX10_element cX10_element 4 (some .int) 2 0 0 T_X10_element := mm_met (E := e_X10_element) (cd := kX10_element) s_X10_element (by decide) kX10_element_ok (by decide +kernel) (by decide +kernel) (Or.inr (Or.inl ⟨rfl, rfl⟩)) rfl (mm_eok_X10 _) (mm_calls_cons (mm_cbs wi_X10_isIn (tb6 (i := 177) rfl rfl) (m_X10_isIn l) (by decide) (by decide) rfl) (mm_calls_cons (mm_cbv wi_X10_isElement (tb7 (i := 143) rfl rfl) (m_X10_isElement l) (by decide) (by decide) rfl) (mm_calls_cons (mm_cbv wi_X10_fail (tb6 (i := 180) rfl rfl) (m_X10_fail l) (by decide) (by decide) rfl) (mm_calls_cons (mm_cbv wi_X10_sumOf (tb5 (i := 205) rfl rfl) (m_X10_sumOf l) (by decide) (by decide) rfl) (mm_calls_cons (mm_cbv wi_X10_differenceOf (tb7 (i := 147) rfl rfl) (m_X10_differenceOf l) (by decide) (by decide) rfl) (mm_calls_cons (mm_cbv wi_X10_productOf (tb5 (i := 213) rfl rfl) (m_X10_productOf l) (by decide) (by decide) rfl) (mm_calls_cons (mm_cbv wi_X10_quotientOf (tb7 (i := 105) rfl rfl) (m_X10_quotientOf l) (by decide) (by decide) rfl) (mm_calls_nil))))))))
def T_X10_log : Tr := fun av h N _ => ∃ (w : FW) (s : RS) (a : AS) (x : Int), av = [mR 1000, mI x] ∧ h = hR w s ∧ RR a s ∧ mm_rng x ∧ RP w a (xLog (aF a) x) N
abbrev e_X10_log : NE := (ftX10, [(387, (2, 0, 0, false, (0, 10), T_X10_isElement)), (373, (2, 0, 0, false, (0, 10), T_X10_fail))], ltX10, [], [], false, 1, (0, 0), [], [], [], false)
theorem s_X10_log : mm_Spec e_X10_log kX10_log 2 T_X10_log := by
  rintro N X K av h hK ⟨w, s, a, x, rfl, rfl, hr, hx, h2⟩
  have hT : RT (aF a) (sI s 1 0) := hr.2.1.1
  have hb := fbase hr.1.1
  refine ⟨rfl, hK [] _ _ _ _ _ _ ?_⟩
  refine ⟨w, sI s 1 0, x, fQ (aF a), rfl, rfl, hx, hT.2.2.2.1, by omega, ?_⟩
  have hno : ¬ (okE (aF a) x ∧ 0 < x) → xLog (aF a) x = (1, 0) := fun q => by unfold xLog; rw [if_neg q]
  refine And.intro (fun q2 => ?_) (fun q2 => ?_)
  · have q2 := bi_c0 q2
    exact ⟨w, sI s 1 0, 1, rfl, rfl, RP_fail h2 hr (hno (fun z => q2 z.1))⟩
  have q2 := bi_c1 q2
  refine And.intro (fun q3 => ?_) (fun q3 => ?_)
  · exact ⟨w, sI s 1 0, 1, rfl, rfl, RP_fail h2 hr (hno (fun z => absurd z.2 (by omega)))⟩
  obtain ⟨xn, rfl⟩ := Int.eq_ofNat_of_zero_le q2.1
  refine And.intro (by omega) ?_
  exact RP_ok h2 hr (by unfold xLog; rw [if_pos ⟨q2, q3⟩]; rfl) (hr.2.1.2.2.2.1 xn (by omega) (by omega))
theorem m_X10_log (l : Launch) : mm_Met l yX10_log cX10_log 2 (some .int) 2 0 0 T_X10_log := mm_met (E := e_X10_log) (cd := kX10_log) s_X10_log (by decide) kX10_log_ok (by decide +kernel) (by decide +kernel) (Or.inr (Or.inl ⟨rfl, rfl⟩)) rfl (mm_eok_X10 _) (mm_calls_cons (mm_cbv wi_X10_isElement (tb7 (i := 143) rfl rfl) (m_X10_isElement l) (by decide) (by decide) rfl) (mm_calls_cons (mm_cbv wi_X10_fail (tb6 (i := 180) rfl rfl) (m_X10_fail l) (by decide) (by decide) rfl) (mm_calls_nil)))
def T_X10_trace : Tr := fun av h N _ => ∃ (w : FW) (s : RS) (a : AS) (x : Int), av = [mR 1000, mI x] ∧ h = hR w s ∧ RR a s ∧ mm_rng x ∧ RP w a (xTrace (aF a) x) N
abbrev e_X10_trace : NE := (ftX10, [(387, (2, 0, 0, false, (0, 10), T_X10_isElement)), (373, (2, 0, 0, false, (0, 10), T_X10_fail))], ltX10, [], [], false, 1, (0, 0), [], [], [], false)
theorem s_X10_trace : mm_Spec e_X10_trace kX10_trace 2 T_X10_trace := by
  rintro N X K av h hK ⟨w, s, a, x, rfl, rfl, hr, hx, h2⟩
  have hT : RT (aF a) (sI s 1 0) := hr.2.1.1
  have hb := fbase hr.1.1
  refine ⟨rfl, hK [] _ _ _ _ _ _ ?_⟩
  refine ⟨w, sI s 1 0, x, fQ (aF a), rfl, rfl, hx, hT.2.2.2.1, by omega, ?_⟩
  refine And.intro (fun q2 => ?_) (fun q2 => ?_)
  · have q2 := bi_c0 q2
    exact ⟨w, sI s 1 0, 1, rfl, rfl, RP_fail h2 hr (by unfold xTrace; rw [if_neg q2])⟩
  have q2 := bi_c1 q2
  obtain ⟨xn, rfl⟩ := Int.eq_ofNat_of_zero_le q2.1
  refine And.intro (by omega) ?_
  exact RP_ok h2 hr (by unfold xTrace; rw [if_pos q2]; rfl) (hr.2.1.2.2.2.2 xn (by omega))
theorem m_X10_trace (l : Launch) : mm_Met l yX10_trace cX10_trace 2 (some .int) 2 0 0 T_X10_trace := mm_met (E := e_X10_trace) (cd := kX10_trace) s_X10_trace (by decide) kX10_trace_ok (by decide +kernel) (by decide +kernel) (Or.inr (Or.inl ⟨rfl, rfl⟩)) rfl (mm_eok_X10 _) (mm_calls_cons (mm_cbv wi_X10_isElement (tb7 (i := 143) rfl rfl) (m_X10_isElement l) (by decide) (by decide) rfl) (mm_calls_cons (mm_cbv wi_X10_fail (tb6 (i := 180) rfl rfl) (m_X10_fail l) (by decide) (by decide) rfl) (mm_calls_nil)))
def T_X10_character : Tr := fun av h N _ => ∃ (w : FW) (s : RS) (a : AS) (j x : Int), av = [mR 1000, mI j, mI x] ∧ h = hR w s ∧ RR a s ∧ mm_rng j ∧ mm_rng x ∧ RP w a (xCharacter (aF a) j x) N
abbrev e_X10_character : NE := (ftX10, [(393, (2, 0, 0, false, (0, 10), T_X10_isCharacter)), (387, (2, 0, 0, false, (0, 10), T_X10_isElement)), (200, (3, 0, 0, false, (0, 10), T_X10_characterOf)), (373, (2, 0, 0, false, (0, 10), T_X10_fail))], ltX10, [], [], false, 1, (0, 0), [], [], [], false)
theorem s_X10_character : mm_Spec e_X10_character kX10_character 3 T_X10_character := by
  rintro N X K av h hK ⟨w, s, a, j, x, rfl, rfl, hr, hj, hx, h2⟩
  have hT : RT (aF a) (sI s 1 0) := hr.2.1.1
  have hb := fbase hr.1.1
  have hno : ¬ (okC (aF a) j ∧ okE (aF a) x) → xCharacter (aF a) j x = (1, 0) := fun q => by unfold xCharacter; rw [if_neg q]
  refine ⟨rfl, hK [] _ _ _ _ _ _ ?_⟩
  refine ⟨w, sI s 1 0, j, fQ (aF a), rfl, rfl, hj, hT.2.2.2.1, by omega, ?_⟩
  refine And.intro (fun q1 => ?_) (fun q1 => ?_)
  · have q1 := bi_c0 q1
    exact ⟨w, sI s 1 0, 1, rfl, rfl, RP_fail h2 hr (hno (fun z => q1 z.1))⟩
  have q1 := bi_c1 q1
  refine ⟨w, sI s 1 0, x, fQ (aF a), rfl, rfl, hx, hT.2.2.2.1, by omega, ?_⟩
  refine And.intro (fun q2 => ?_) (fun q2 => ?_)
  · have q2 := bi_c0 q2
    exact ⟨w, sI s 1 0, 1, rfl, rfl, RP_fail h2 hr (hno (fun z => q2 z.2))⟩
  have q2 := bi_c1 q2
  obtain ⟨xn, rfl⟩ := Int.eq_ofNat_of_zero_le q2.1
  obtain ⟨jn, rfl⟩ := Int.eq_ofNat_of_zero_le q1.1
  exact ⟨w, sI s 1 0, aF a, jn, xn, rfl, rfl, hr.2.1, by omega, by omega, RP_ok h2 hr (by unfold xCharacter; rw [if_pos ⟨q1, q2⟩]; rfl) rfl⟩
theorem m_X10_character (l : Launch) : mm_Met l yX10_character cX10_character 3 (some .int) 2 0 0 T_X10_character := mm_met (E := e_X10_character) (cd := kX10_character) s_X10_character (by decide) kX10_character_ok (by decide +kernel) (by decide +kernel) (Or.inr (Or.inl ⟨rfl, rfl⟩)) rfl (mm_eok_X10 _) (mm_calls_cons (mm_cbv wi_X10_isCharacter (tb7 (i := 163) rfl rfl) (m_X10_isCharacter l) (by decide) (by decide) rfl) (mm_calls_cons (mm_cbv wi_X10_isElement (tb7 (i := 143) rfl rfl) (m_X10_isElement l) (by decide) (by decide) rfl) (mm_calls_cons (mm_cbv wi_X10_characterOf (tb7 (i := 97) rfl rfl) (m_X10_characterOf l) (by decide) (by decide) rfl) (mm_calls_cons (mm_cbv wi_X10_fail (tb6 (i := 180) rfl rfl) (m_X10_fail l) (by decide) (by decide) rfl) (mm_calls_nil)))))
theorem fst0_eq {b : Nat → Bool} {m : Nat} (hm : b m = true) : ∀ (n i : Nat), i ≤ m → m < i + n → (∀ j, i ≤ j → j < m → b j = false) → fst0 b n i = m
  | 0, i, h1, h2, _ => by omega
  | n + 1, i, h1, h2, h => by
    unfold fst0
    by_cases q : i = m
    · subst q; rw [hm]
    · rw [h i (Nat.le_refl _) (by omega)]
      exact fst0_eq hm n (i + 1) (by omega) (by omega) (fun j q1 q2 => h j (by omega) q2)
theorem fst0_none {b : Nat → Bool} : ∀ (n i : Nat), (∀ j, i ≤ j → j < i + n → b j = false) → fst0 b n i = i + n
  | 0, i, _ => rfl
  | n + 1, i, h => by
    unfold fst0
    rw [h i (Nat.le_refl _) (by omega)]
    show fst0 b n (i + 1) = _
    rw [fst0_none n (i + 1) (fun j q1 q2 => h j (by omega) (by omega))]
    omega
theorem ordB_iff {f j n : Nat} : ordB f j n = true ↔ ∀ x, 1 ≤ x → x < fQ f → fP f * flog f x * j % fN f * n % fN f = 0 := by
  unfold ordB
  rw [List.all_eq_true]
  constructor
  · intro h x h1 h2
    have := h x (List.mem_range.mpr h2)
    rw [Bool.or_eq_true] at this
    rcases this with q | q
    · exact absurd (Nat.eq_of_beq_eq_true q) (by omega)
    · exact Nat.eq_of_beq_eq_true q
  · intro h x hx
    have hx := List.mem_range.mp hx
    rcases Nat.eq_zero_or_pos x with q | q
    · rw [q]; rfl
    · rw [h x q hx]
      simp
theorem lz {n : Nat} (h : n < 9223372036854775808) : Int64.ofInt (n : Int) = 0 ↔ n = 0 := by
  constructor
  · intro e
    rcases Nat.eq_zero_or_pos n with q | q
    · exact q
    · exact absurd e (l_ne0 q h)
  · intro e; rw [e]; rfl
def T_X10_order : Tr := fun av h N _ => ∃ (w : FW) (s : RS) (a : AS) (j : Int), av = [mR 1000, mI j] ∧ h = hR w s ∧ RR a s ∧ mm_rng j ∧ RP w a (xOrder (aF a) j) N
abbrev e_X10_order : NE := (ftX10, [(393, (2, 0, 0, false, (0, 10), T_X10_isCharacter)), (373, (2, 0, 0, false, (0, 10), T_X10_fail)), (200, (3, 0, 0, false, (0, 10), T_X10_characterOf))], ltX10, [], [], false, 1, (0, 0), [], [], [], false)
set_option maxHeartbeats 4000000 in
theorem s_X10_order : mm_Spec e_X10_order kX10_order 5 T_X10_order := by
  rintro N X K av h hK ⟨w, s, a, j, rfl, rfl, hr, hj, h2⟩
  have hA : RA (aF a) (sI s 1 0) := hr.2.1
  have hT := hA.1
  have hq := hT.2.2.2.1
  have hn := hA.2.1.2.1
  obtain ⟨f, hf0⟩ : ∃ f, f = aF a := ⟨_, rfl⟩
  have hf : f < 15 := by rw [hf0]; exact hr.1.1
  rw [← hf0] at hA hT hq hn h2
  obtain ⟨b1, b2, b3, b4, b5, b6, b7, b8, b9, b10, b11, b12⟩ := fbase hf
  refine ⟨rfl, hK [21] _ _ _ _ _ _ ?_⟩
  refine ⟨w, sI s 1 0, j, fQ f, rfl, rfl, hj, hq, by omega, ?_⟩
  refine And.intro (fun q1 => ?_) (fun q1 => ?_)
  · have q1 := bi_c1 q1
    obtain ⟨jn, rfl⟩ := Int.eq_ofNat_of_zero_le q1.1
    have hx : xOrder f jn = (0, (ordX f jn : Int)) := by unfold xOrder; rw [if_pos q1]; rfl
    have loopM : ∀ m : Nat, m ≤ fQ f → 1 ≤ m → ∀ (o3 o4 : Option MV), (∀ m2, 1 ≤ m2 → m2 < m → ordB f jn m2 = false) → K 21 [some (mR 1000), some (mI (jn : Int)), some (mI m), o3, o4] [] (hR w (sI s 1 0)) 0 0 := by
      refine mm_for (fQ f) (fun hm1 o3 o4 hall => ?_) (fun m hm ih hm1 o3 o4 hall => ?_)
      · refine hK [21] _ _ _ _ _ _ ?_
        refine And.intro (fun _ => ?_) (fun q => absurd q (by omega))
        refine And.intro (rng_of (by omega) (by omega)) ?_
        refine RP_ok h2 hr hx ?_
        unfold ordX
        rw [fst0_none (fQ f - 1) 1 (fun j q2 q3 => hall j q2 (by omega))]
        show (sI s 1 0).1 4 - 1 = _
        rw [hq]
        omega
      · have loopX : ∀ x : Nat, x ≤ fQ f → 1 ≤ x → ∀ g : Int, g = bi (∀ x2, x2 < x → 1 ≤ x2 → fP f * flog f x2 * jn % fN f * m % fN f = 0) → K 34 [some (mR 1000), some (mI (jn : Int)), some (mI m), some (mI g), some (mI x)] [] (hR w (sI s 1 0)) 0 0 := by
          refine mm_for (fQ f) (fun hx1 g hg => ?_) (fun x hxq ihx hx1 g hg => ?_)
          · refine hK [21, 34] _ _ _ _ _ _ ?_
            refine And.intro (fun _ => ?_) (fun q => absurd q (by omega))
            refine And.intro (fun z => ?_) (fun z => ?_)
            · refine And.intro (rng_of (by omega) (by omega)) ?_
              rw [hg] at z
              refine ih (by omega) _ _ (fun m2 q2 q3 => ?_)
              by_cases e : m2 = m
              · subst e
                cases hz : ordB f jn m2 with
                | false => rfl
                | true => exact absurd (fun x2 q4 q5 => ordB_iff.mp hz x2 q5 q4) (bi_c0 z)
              · exact hall m2 q2 (by omega)
            · rw [hg] at z
              refine RP_ok h2 hr hx ?_
              unfold ordX
              rw [fst0_eq (m := m) (ordB_iff.mpr (fun x2 q4 q5 => bi_c1 z x2 q5 q4)) (fQ f - 1) 1 hm1 (by omega) (fun j q2 q3 => hall j q2 q3)]
              omega
          · refine hK [21, 34] _ _ _ _ _ _ ?_
            refine And.intro (fun q => absurd q (by omega)) (fun _ => ?_)
            refine And.intro (fun z => ?_) (fun z => ?_)
            · refine And.intro (rng_of (by omega) (by omega)) ?_
              refine ihx (by omega) 0 ?_
              rw [hg] at z
              exact (bi_f (fun hall2 => bi_c0 z (fun x2 q4 q5 => hall2 x2 (by omega) q5))).symm
            · rw [hg] at z
              have hch : chE f jn x = some (fP f * flog f x * jn % fN f) := by unfold chE; rw [if_neg (by omega)]
              refine ⟨w, sI s 1 0, f, jn, x, rfl, rfl, hA, by omega, hxq, ?_⟩
              have hml := Nat.mod_lt (fP f * flog f x * jn) (show 0 < fN f by omega)
              have hmm : fP f * flog f x * jn % fN f * m ≤ 506 * 27 := Nat.mul_le_mul (by omega) (by omega)
              have hml2 := Nat.mod_lt (fP f * flog f x * jn % fN f * m) (show 0 < fN f by omega)
              rw [chI_some hch]
              conv => whnf
              rw [hn, ← Int64.ofInt_mul, cmul]
              refine And.intro (l_ne0 (by omega) (by omega)) ?_
              rw [lrem_nat (by omega) (by omega) (by omega)]
              refine And.intro (fun z2 => ?_) (fun z2 => ?_)
              · refine And.intro (rng_of (by omega) (by omega)) ?_
                refine ihx (by omega) 0 ?_
                refine (bi_f (fun hall2 => z2 ((cmp_eq _ _).mpr ?_))).symm
                rw [lc0]
                exact (lz (by omega)).mpr (hall2 x (by omega) hx1)
              · refine And.intro (rng_of (by omega) (by omega)) ?_
                refine ihx (by omega) 1 ?_
                have e := (cmp_eq _ _).mp z2
                rw [lc0] at e
                refine (bi_t (fun x2 q4 q5 => ?_)).symm
                by_cases e2 : x2 = x
                · rw [e2]; exact (lz (by omega)).mp e
                · exact bi_c1 z x2 (by omega) q5
        refine hK [34] _ _ _ _ _ _ ?_
        refine And.intro (fun q => absurd q (by omega)) (fun _ => ?_)
        exact loopX 1 (by omega) (by omega) 1 (bi_t (fun x2 q4 q5 => by omega)).symm
    exact loopM 1 (by omega) (by omega) none none (fun m2 q2 q3 => by omega)
  · have q1 := bi_c0 q1
    exact ⟨w, sI s 1 0, 1, rfl, rfl, RP_fail h2 hr (by unfold xOrder; rw [if_neg q1])⟩
theorem m_X10_order (l : Launch) : mm_Met l yX10_order cX10_order 5 (some .int) 2 0 0 T_X10_order := mm_met (E := e_X10_order) (cd := kX10_order) s_X10_order (by decide) kX10_order_ok (by decide +kernel) (by decide +kernel) (Or.inr (Or.inl ⟨rfl, rfl⟩)) rfl (mm_eok_X10 _) (mm_calls_cons (mm_cbv wi_X10_isCharacter (tb7 (i := 163) rfl rfl) (m_X10_isCharacter l) (by decide) (by decide) rfl) (mm_calls_cons (mm_cbv wi_X10_fail (tb6 (i := 180) rfl rfl) (m_X10_fail l) (by decide) (by decide) rfl) (mm_calls_cons (mm_cbv wi_X10_characterOf (tb7 (i := 97) rfl rfl) (m_X10_characterOf l) (by decide) (by decide) rfl) (mm_calls_nil))))
