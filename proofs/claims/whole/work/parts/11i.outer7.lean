/-! the component: sets, the tape -/
def T_X9_needSet : Tr := fun av h N X => ∃ (M : List ME) (c : CS) (f : Nat) (x : Int), av = [mR 0, mI x] ∧ h = hC (none, M) c ∧ CF0 f c ∧ mm_rng x ∧ (okS f x → N none h) ∧ (¬ okS f x → X xN h)
abbrev e_X9_needSet : NE := (ftX9, [], ltX9, [], [], false, 0, (1, 6), [], [], [(16, xN)], true)
theorem s_X9_needSet : mm_Spec e_X9_needSet kX9_needSet 2 T_X9_needSet := by
  rintro N X K av h hK ⟨M, c, f, x, rfl, rfl, h0, hx, h1, h2⟩
  have hb := fbase h0.1
  refine ⟨rfl, hK [] _ _ _ _ _ _ ?_⟩
  refine And.intro (fun q => ?_) (fun q => ?_)
  · exact h2 (fun z => absurd z.1 (by omega))
  conv => whnf
  rw [h0.2.2.2]
  obtain ⟨n, rfl⟩ := Int.eq_ofNat_of_zero_le (show 0 ≤ x by omega)
  have hn : n < 2147483648 := by unfold mm_rng at hx; omega
  rw [shr_nat hn (by omega)]
  have hp : (2 : Int) ^ fQ f = ((2 ^ fQ f : Nat) : Int) := by rw [Int.natCast_pow]; rfl
  have hpos : 0 < 2 ^ fQ f := Nat.pow_pos (by omega)
  refine And.intro (fun q2 => ?_) (fun q2 => ?_)
  · refine h1 ⟨by omega, ?_⟩
    rw [hp]
    have := (Nat.div_eq_zero_iff_lt hpos).mp (show n / 2 ^ fQ f = 0 by omega)
    omega
  · refine h2 (fun z => q2 ?_)
    have z2 := z.2
    rw [hp] at z2
    rw [Nat.div_eq_of_lt (show n < 2 ^ fQ f by omega)]
    rfl
theorem m_X9_needSet (l : Launch) (hl : l.stackTraces = false) : mm_MetX l yX9_needSet cX9_needSet 2 none 6 1 6 T_X9_needSet := mm_metX (E := e_X9_needSet) (cd := kX9_needSet) s_X9_needSet (by decide) kX9_needSet_ok (by decide +kernel) (by decide +kernel) (Or.inl ⟨rfl, rfl⟩) rfl hl (by decide) (by decide +kernel) (mm_eokt (mm_eok_X9 _)) (mm_cz_nil)
def T_X9_differences : Tr := fun av h N X => ∃ (M : List ME) (c : CS) (a : AS) (x : Int), av = [mR 0, mI x] ∧ h = hC (none, M) c ∧ CR a c ∧ mm_rng x ∧ CP M a (xDifferences (aF a) x) N X
abbrev e_X9_differences : NE := (ftX9, [(303, (2, 1, 6, true, (0, 9), T_X9_needSet)), (311, (2, 0, 0, false, (0, 0), T_X0_evenDifferences))], ltX9, [], [], false, 1, (1, 6), [], [], [], true)
theorem s_X9_differences : mm_Spec e_X9_differences kX9_differences 2 T_X9_differences := by
  rintro N X K av h hK ⟨M, c, a, x, rfl, rfl, hc, hx, h2⟩
  refine ⟨rfl, hK [] _ _ _ _ _ _ ?_⟩
  refine ⟨M, c, aF a, x, rfl, rfl, CR_0 hc, hx, fun q => ?_, fun q => ?_⟩
  · obtain ⟨n, rfl⟩ := Int.eq_ofNat_of_zero_le q.1
    refine ⟨(none, M), c, aF a, n, rfl, rfl, hc.2.1.1, by unfold mm_rng at hx; omega, fun A => ?_⟩
    exact CP_0 h2 (if_pos q) (CR_fr (I := []) (A := [22]) (L := []) hc (FC_A (FC_rf c) rfl) rfl rfl)
  · exact CP_1 h2 (if_neg q) hc
theorem m_X9_differences (l : Launch) (hl : l.stackTraces = false) : mm_MetX l yX9_differences cX9_differences 2 (some .int) 7 1 6 T_X9_differences := mm_metX (E := e_X9_differences) (cd := kX9_differences) s_X9_differences (by decide) kX9_differences_ok (by decide +kernel) (by decide +kernel) (Or.inr (Or.inl ⟨rfl, rfl⟩)) rfl hl (by decide) (by decide +kernel) (mm_eokt (mm_eok_X9 _)) (mm_cz_cons (Or.inr (mm_cxv wi_X9_needSet (tb5 (i := 111) rfl rfl) (m_X9_needSet l hl) (by decide) (by decide) rfl)) (mm_cz_cons (Or.inl (mm_CQ_of (mm_cbv wi_X0_evenDifferences (tb5 (i := 129) rfl rfl) (m_X0_evenDifferences l) (by decide) (by decide) rfl))) (mm_cz_nil)))
theorem lsX5_c : fevery (fun f => fall f (fun x => Nat.ble (lsX f x).length 5)) = true := by decide +kernel
theorem lsX_len5 {f x : Nat} (hf : f < 15) (hx : x < fQ f) : (lsX f x).length ≤ 5 := Nat.le_of_ble_eq_true (fall_at (fevery_at lsX5_c hf) hx)
def T_X9_least : Tr := fun av h N X => ∃ (M : List ME) (c : CS) (a : AS) (x i : Int), av = [mR 0, mI x, mI i] ∧ h = hC (none, M) c ∧ CR a c ∧ CP M a (xLeast (aF a) x i) N X
abbrev e_X9_least : NE := (ftX9, [(168, (2, 1, 6, true, (0, 9), T_X9_needElement)), (290, (2, 0, 0, false, (0, 1), T_X1_normOf)), (293, (2, 0, 0, false, (0, 1), T_X1_findLeast)), (298, (2, 0, 0, false, (0, 1), T_X1_leastAt))], ltX9, [], [], false, 1, (2, 12), [], [], [(45, xN)], true)
theorem s_X9_least : mm_Spec e_X9_least kX9_least 4 T_X9_least := by
  rintro N X K av h hK ⟨M, c, a, x, i, rfl, rfl, hc, h2⟩
  have h0 := CR_0 hc
  refine ⟨rfl, hK [] _ _ _ _ _ _ ?_⟩
  refine ⟨M, c, aF a, x, rfl, rfl, h0, fun q => ?_, fun q => ?_⟩
  · obtain ⟨n, rfl⟩ := Int.eq_ofNat_of_zero_le q.1
    have ex : xLeast (aF a) n i = if i = -1 then ((0, (nrmX (aF a) n : Int)) : Nat × Int) else if i = -2 then (0, ((lsX (aF a) n).length : Int) - 1) else if 0 ≤ i ∧ i < ((lsX (aF a) n).length : Int) then (0, ((lsX (aF a) n).getD i.toNat 0 : Nat)) else (1, 0) := if_pos q
    rw [ex] at h2
    refine And.intro (fun q1 => ?_) (fun q1 => ?_)
    · rw [if_neg q1] at h2
      refine ⟨(none, M), c, aF a, n, rfl, rfl, hc.2.1.1, by omega, fun A hA => ?_⟩
      have hcA : CR a (kA c 9 A) := CR_fr (I := []) (A := [9]) (L := []) hc (FC_A (FC_rf c) rfl) rfl rfl
      refine And.intro (fun q2 => ?_) (fun q2 => ?_)
      · rw [if_neg q2] at h2
        refine And.intro (fun q3 => ?_) (fun q3 => ?_)
        · rw [if_neg (by omega)] at h2
          exact CP_1 h2 rfl hcA
        refine And.intro (fun q4 => ?_) (fun q4 => ?_)
        · rw [if_pos ⟨by omega, by omega⟩] at h2
          have h5 := lsX_len5 (f := aF a) (x := n) h0.1 (by omega)
          obtain ⟨m, rfl⟩ := Int.eq_ofNat_of_zero_le (show 0 ≤ i by omega)
          refine ⟨(none, M), kA c 9 A, m, rfl, rfl, by omega, by omega, ?_⟩
          have e : (kA c 9 A).2.1 9 (m : Int) = (((lsX (aF a) n).getD m 0 : Nat) : Int) := hA m (by omega)
          rw [e]
          exact CP_0 h2 rfl hcA
        · rw [if_neg (by omega)] at h2
          exact CP_1 h2 rfl hcA
      · rw [if_pos (by omega)] at h2
        exact CP_0 h2 rfl hcA
    · rw [if_pos (by omega)] at h2
      refine ⟨(none, M), c, aF a, n, rfl, rfl, h0, hc.2.1.1.2.2.2.2.1, by omega, ?_⟩
      exact CP_0 h2 rfl hc
  · exact CP_1 h2 (if_neg q) hc
theorem m_X9_least (l : Launch) (hl : l.stackTraces = false) : mm_MetX l yX9_least cX9_least 4 (some .int) 7 2 12 T_X9_least := mm_metX (E := e_X9_least) (cd := kX9_least) s_X9_least (by decide) kX9_least_ok (by decide +kernel) (by decide +kernel) (Or.inr (Or.inl ⟨rfl, rfl⟩)) rfl hl (by decide) (by decide +kernel) (mm_eokt (mm_eok_X9 _)) (mm_cz_cons (Or.inr (mm_cxv wi_X9_needElement (tb4 (i := 112) rfl rfl) (m_X9_needElement l hl) (by decide) (by decide) rfl)) (mm_cz_cons (Or.inl (mm_CQ_of (mm_cbv wi_X1_normOf (tb5 (i := 75) rfl rfl) (m_X1_normOf l) (by decide) (by decide) rfl))) (mm_cz_cons (Or.inl (mm_CQ_of (mm_cbv wi_X1_findLeast (tb5 (i := 79) rfl rfl) (m_X1_findLeast l) (by decide) (by decide) rfl))) (mm_cz_cons (Or.inl (mm_CQ_of (mm_cbv wi_X1_leastAt (tb5 (i := 85) rfl rfl) (m_X1_leastAt l) (by decide) (by decide) rfl))) (mm_cz_nil)))))
