/-! the component: cyclotomic numbers, speech, the weights' likeness -/
def T_X9_cyclotomic : Tr := fun av h N X => ∃ (M : List ME) (c : CS) (a : AS) (e i j : Int), av = [mR 0, mI e, mI i, mI j] ∧ h = hC (none, M) c ∧ CR a c ∧ CP M a (xCyclotomic (aF a) e i j) N X
abbrev e_X9_cyclotomic : NE := (ftX9, [(314, (3, 0, 0, false, (0, 1), T_X1_hasClass)), (320, (4, 0, 0, false, (0, 0), T_X0_neighbours))], ltX9, [], [], false, 1, (1, 6), [], [], [(24, xN)], true)
theorem s_X9_cyclotomic : mm_Spec e_X9_cyclotomic kX9_cyclotomic 4 T_X9_cyclotomic := by
  rintro N X K av h hK ⟨M, c, a, e, i, j, rfl, rfl, hc, h2⟩
  have h0 := CR_0 hc
  refine ⟨rfl, hK [] _ _ _ _ _ _ ?_⟩
  refine ⟨(none, M), c, aF a, e, i, rfl, rfl, h0, ?_⟩
  refine And.intro (fun q => ?_) (fun q => ?_)
  · exact CP_1 h2 (if_neg (fun z => bi_c0 q z.1)) hc
  have q := bi_c1 q
  refine ⟨(none, M), c, aF a, e, j, rfl, rfl, h0, ?_⟩
  refine And.intro (fun q2 => ?_) (fun q2 => ?_)
  · have q2 := bi_c1 q2
    obtain ⟨n, rfl⟩ := Int.eq_ofNat_of_zero_le (show 0 ≤ e by have := q.1; omega)
    obtain ⟨m, rfl⟩ := Int.eq_ofNat_of_zero_le q.2.2.1
    obtain ⟨k, rfl⟩ := Int.eq_ofNat_of_zero_le q2.2.2.1
    refine ⟨(none, M), c, aF a, n, m, k, rfl, rfl, hc.2.1.1, by have := q.1; omega, ?_⟩
    exact CP_0 h2 (if_pos ⟨q, q2⟩) hc
  · exact CP_1 h2 (if_neg (fun z => absurd (bi_t z.2) (by omega))) hc
theorem m_X9_cyclotomic (l : Launch) (hl : l.stackTraces = false) : mm_MetX l yX9_cyclotomic cX9_cyclotomic 4 (some .int) 6 1 6 T_X9_cyclotomic := mm_metX (E := e_X9_cyclotomic) (cd := kX9_cyclotomic) s_X9_cyclotomic (by decide) kX9_cyclotomic_ok (by decide +kernel) (by decide +kernel) (Or.inr (Or.inl ⟨rfl, rfl⟩)) rfl hl (by decide) (by decide +kernel) (mm_eokt (mm_eok_X9 _)) (mm_cz_cons (Or.inl (mm_CQ_of (mm_cbv wi_X1_hasClass (tb2 (i := 228) rfl rfl) (m_X1_hasClass l) (by decide) (by decide) rfl))) (mm_cz_cons (Or.inl (mm_CQ_of (mm_cbv wi_X0_neighbours (tb5 (i := 143) rfl rfl) (m_X0_neighbours l) (by decide) (by decide) rfl))) (mm_cz_nil)))
theorem CR_S {a : AS} {c c' : CS} (h : CR a c) (hF : FC [23] [34] [] c c') {l : List Int} (hl : TXc c' l) (h1 : l.length ≤ 2640) (h2 : ∀ i, i < l.length → 0 ≤ l.getD i 0 ∧ l.getD i 0 ≤ 127) : CR (aSetS a l.length (fun i => l.getD i 0)) c' := by
  obtain ⟨g1, ⟨g2, g3⟩, g4, g6, g7, g8, g10, g11, g12⟩ := h
  refine ⟨⟨g1.1, g1.2.1, g1.2.2.1, g1.2.2.2.1, g1.2.2.2.2.1, g1.2.2.2.2.2.1, h1, h2⟩, ⟨CF_fr g2 hF rfl rfl, CG_fr g3 hF rfl rfl⟩, ⟨?_, ?_, TW_fr g4.2.2 hF rfl rfl rfl⟩, ?_, ?_, ⟨?_, ?_⟩, ?_, hl.1, hl.2⟩
  · rw [hF.1 4 rfl]; exact g4.1
  · rw [hF.1 5 rfl]; exact g4.2.1
  · intro i t hi ht
    rw [hF.2.2.2]; exact g6 i t hi ht
  · intro x hx
    rw [hF.2.1 16 rfl]; exact g7 x hx
  · rw [hF.1 24 rfl]; exact g8.1
  · intro i hi
    rw [hF.2.1 17 rfl]; exact g8.2 i hi
  · rw [hF.1 25 rfl]; exact g10
def T_X9_say : Tr := fun av h N X => ∃ (M : List ME) (c : CS) (a : AS) (x : Int), av = [mR 0, mI x] ∧ h = hC (none, M) c ∧ CR a c ∧ CP M (xSay a x).1 (xSay a x).2 N X
abbrev e_X9_say : NE := (ftX9, [(200, (2, 1, 6, true, (0, 9), T_X9_needPlace)), (323, (3, 0, 0, false, (0, 5), T_X5_write))], ltX9, [], [], false, 1, (1, 6), [], [], [], true)
theorem s_X9_say : mm_Spec e_X9_say kX9_say 2 T_X9_say := by
  rintro N X K av h hK ⟨M, c, a, x, rfl, rfl, hc, h2⟩
  have hd : c.1 7 = (fD (aF a) : Nat) := hc.2.1.2.2.2.1
  have hb := fbase hc.1.1
  refine ⟨rfl, hK [] _ _ _ _ _ _ ?_⟩
  refine ⟨M, c, x, rfl, rfl, fun q => ?_, fun q => ?_⟩
  · obtain ⟨n, rfl⟩ := Int.eq_ofNat_of_zero_le q.1
    rw [show xSay a n = (aSetS a (sayX (aP a n) (fD (aF a))).length (fun i => (sayX (aP a n) (fD (aF a))).getD i 0), 0, ((sayX (aP a n) (fD (aF a))).length : Int)) from if_pos q] at h2
    refine And.intro (by omega) ?_
    conv => whnf
    rw [hd]
    refine ⟨(none, M), c, 0 + n, fD (aF a), aP a n, rfl, rfl, by omega, by omega, by omega, fun t ht => ?_, fun c' hF hl => ?_⟩
    · rw [Nat.zero_add, hc.2.2.2.1 n t (by omega) ht]
      have := hc.1.2.1 n t (by omega) ht
      exact ⟨rfl, by omega⟩
    · exact CP_0 h2 rfl (CR_S hc hF hl (sayX_len (fun t ht => by
        have := hc.1.2.1 n t (by omega) ht
        omega) (by omega) (by omega)) (fun i hi => by
        rw [List.getD_eq_getElem?_getD, List.getElem?_eq_getElem hi]
        exact sayX_chs _ (List.getElem_mem hi)))
  · rw [show xSay a x = (a, 1, 0) from if_neg q] at h2
    exact CP_1 h2 rfl hc
theorem m_X9_say (l : Launch) (hl : l.stackTraces = false) : mm_MetX l yX9_say cX9_say 2 (some .int) 7 1 6 T_X9_say := mm_metX (E := e_X9_say) (cd := kX9_say) s_X9_say (by decide) kX9_say_ok (by decide +kernel) (by decide +kernel) (Or.inr (Or.inl ⟨rfl, rfl⟩)) rfl hl (by decide) (by decide +kernel) (mm_eokt (mm_eok_X9 _)) (mm_cz_cons (Or.inr (mm_cxv wi_X9_needPlace (tb4 (i := 166) rfl rfl) (m_X9_needPlace l hl) (by decide) (by decide) rfl)) (mm_cz_cons (Or.inl (mm_CQ_of (mm_cbv wi_X5_write (tb5 (i := 155) rfl rfl) (m_X5_write l) (by decide) (by decide) rfl))) (mm_cz_nil)))
def T_X9_alike : Tr := fun av h N X => ∃ (M : List ME) (c : CS) (a : AS) (y : Int), av = [mR 0, mI y] ∧ h = hC (none, M) c ∧ CR a c ∧ CP M a (xAlike a y) N X
abbrev e_X9_alike : NE := (ftX9, [(168, (2, 1, 6, true, (0, 9), T_X9_needElement)), (171, (3, 0, 0, false, (0, 1), T_X1_plus))], ltX9, [], [], false, 1, (1, 6), [], [], [], true)
theorem s_X9_alike : mm_Spec e_X9_alike kX9_alike 4 T_X9_alike := by
  rintro N X K av h hK ⟨M, c, a, y, rfl, rfl, hc, h2⟩
  have h0 := CR_0 hc
  have hb := fbase h0.1
  have loop : ∀ (n : Nat), n < fQ (aF a) → CP M a (xAlike a n) N X → ∀ (k x : Nat), x + k = fQ (aF a) → K 9 [some (mR 0), some (mI (n : Int)), some (mI (sumI (fun x => aW a x * aW a (fsum (aF a) x n)) x)), some (mI (x : Int))] [] (hC (none, M) c) (0 + 1) (0 + 6) := by
    intro n hn h2 k
    have ex : xAlike a n = (0, alkN (aF a) (aW a) n) := if_pos ⟨by omega, by omega⟩
    induction k with
    | zero =>
      intro x hx
      refine hK [9] _ _ _ _ _ _ ?_
      conv => whnf
      rw [h0.2.2.2]
      refine And.intro (fun _ => ?_) (fun q => absurd q (by omega))
      refine CP_0 h2 (ex.trans ?_) hc
      rw [show x = fQ (aF a) by omega]
      rfl
    | succ k ih =>
      intro x hx
      have hw := hc.2.2.2.2.1
      have hwb := hc.1.2.2.1
      have hs := fsum_lt h0.1 (show x < fQ (aF a) by omega) hn
      refine hK [9] _ _ _ _ _ _ ?_
      conv => whnf
      rw [h0.2.2.2]
      refine And.intro (fun q => absurd q (by omega)) (fun _ => ?_)
      refine And.intro (by omega) ?_
      refine ⟨(none, M), c, aF a, x, n, rfl, rfl, h0, hc.2.1.1.2.1, by omega, hn, ?_⟩
      refine And.intro (by omega) ?_
      conv => whnf
      rw [hw x (by omega), hw _ (by omega)]
      have hp := w_prod (hwb x (by omega)) (hwb (fsum (aF a) x n) (by omega))
      have b1 := alk_bd h0.1 hwb hn x (by omega)
      have b2 := alk_bd h0.1 hwb hn (x + 1) (by omega)
      refine And.intro (rng_of (by omega) (by omega)) ?_
      refine And.intro (rng_of (by omega) (by omega)) ?_
      refine And.intro (rng_of (by omega) (by omega)) ?_
      exact ih (x + 1) (by omega)
  refine ⟨rfl, hK [9] _ _ _ _ _ _ ?_⟩
  refine ⟨M, c, aF a, y, rfl, rfl, h0, fun q => ?_, fun q => ?_⟩
  · obtain ⟨n, rfl⟩ := Int.eq_ofNat_of_zero_le q.1
    exact loop n (by omega) h2 (fQ (aF a)) 0 (by omega)
  · exact CP_1 h2 (if_neg q) hc
theorem m_X9_alike (l : Launch) (hl : l.stackTraces = false) : mm_MetX l yX9_alike cX9_alike 4 (some .int) 7 1 6 T_X9_alike := mm_metX (E := e_X9_alike) (cd := kX9_alike) s_X9_alike (by decide) kX9_alike_ok (by decide +kernel) (by decide +kernel) (Or.inr (Or.inl ⟨rfl, rfl⟩)) rfl hl (by decide) (by decide +kernel) (mm_eokt (mm_eok_X9 _)) (mm_cz_cons (Or.inr (mm_cxv wi_X9_needElement (tb4 (i := 112) rfl rfl) (m_X9_needElement l hl) (by decide) (by decide) rfl)) (mm_cz_cons (Or.inl (mm_CQ_of (mm_cbv wi_X1_plus (tb4 (i := 117) rfl rfl) (m_X1_plus l) (by decide) (by decide) rfl))) (mm_cz_nil)))
