/-! the component: alike places, the curve, weights -/
theorem CR_fr {a : AS} {I A L : List Nat} {c c' : CS} (h : CR a c) (hF : FC I A L c c') (hI : [1, 2, 3, 4, 5, 6, 7, 8, 9, 11, 12, 23, 24, 25].all (fun j => !(mm_mem j I)) = true) (hA : [2, 3, 5, 6, 7, 8, 11, 13, 14, 16, 17, 24, 34].all (fun j => !(mm_mem j A)) = true) : CR a c' := by
  obtain ⟨h1, ⟨h2, h3⟩, ⟨h4, h5, hT⟩, h6, h7, ⟨h8, h9⟩, h10, h11, h12⟩ := h
  simp only [List.all_cons, List.all_nil, Bool.and_eq_true, Bool.not_eq_true'] at hI hA
  obtain ⟨i1, i2, i3, i4, i5, i6, i7, i8, i9, i11, i12, i23, i24, i25, -⟩ := hI
  obtain ⟨a2, a3, a5, a6, a7, a8, a11, a13, a14, a16, a17, a24, a34, -⟩ := hA
  refine ⟨h1, ⟨CF_fr h2 hF ?_ ?_, CG_fr h3 hF ?_ ?_⟩, ⟨?_, ?_, TW_fr hT hF i11 i12 a24⟩, ?_, ?_, ⟨?_, ?_⟩, ?_, ?_, ?_⟩
  · simp only [List.all_cons, List.all_nil, i1, i2, i3]; rfl
  · simp only [List.all_cons, List.all_nil, a2, a3, a5, a6, a7, a8]; rfl
  · simp only [List.all_cons, List.all_nil, i6, i7, i8, i9]; rfl
  · simp only [List.all_cons, List.all_nil, a11, a13, a14]; rfl
  · rw [hF.1 4 i4]; exact h4
  · rw [hF.1 5 i5]; exact h5
  · intro i t hi ht
    rw [hF.2.2.2]; exact h6 i t hi ht
  · intro x hx
    rw [hF.2.1 16 a16]; exact h7 x hx
  · rw [hF.1 24 i24]; exact h8
  · intro i hi
    rw [hF.2.1 17 a17]; exact h9 i hi
  · rw [hF.1 25 i25]; exact h10
  · rw [hF.1 23 i23]; exact h11
  · intro i hi
    rw [hF.2.1 34 a34]; exact h12 i hi
theorem CR_g {a : AS} {c : CS} (h : CR a c) (G : Int → Int64) : CR a (kL c 12 G) := CR_fr (I := []) (A := []) (L := [12]) h (FC_L (FC_rf c) rfl) rfl rfl
theorem vL_inj {x y : Int} (hx : -1000000 ≤ x ∧ x ≤ 1000000) (hy : -1000000 ≤ y ∧ y ≤ 1000000) (h : Int64.ofInt x = Int64.ofInt y) : x = y := by
  have h2 := congrArg Int64.toInt h
  rw [Int64.toInt_ofInt_of_le (by omega) (by omega), Int64.toInt_ofInt_of_le (by omega) (by omega)] at h2
  exact h2
theorem CR_row {a : AS} {c : CS} (h : CR a c) {i : Nat} (hi : i < 8) : rsm (aF a) c i := fun t ht => by rw [h.2.2.2.1 i t hi ht]; exact h.1.2.1 i t hi ht
def T_X9_curve : Tr := fun av h N X => ∃ (M : List ME) (c : CS) (a : AS) (x y : Int), av = [mR 0, mI x, mI y] ∧ h = hC (none, M) c ∧ CR a c ∧ CP M a (xCurve (aF a) x y) N X
abbrev e_X9_curve : NE := (ftX9, [(168, (2, 1, 6, true, (0, 9), T_X9_needElement)), (287, (3, 0, 0, false, (0, 0), T_X0_curvePoints))], ltX9, [], [], false, 1, (2, 12), [], [], [], true)
theorem s_X9_curve : mm_Spec e_X9_curve kX9_curve 3 T_X9_curve := by
  rintro N X K av h hK ⟨M, c, a, x, y, rfl, rfl, hc, h2⟩
  refine ⟨rfl, hK [] _ _ _ _ _ _ ?_⟩
  refine ⟨M, c, aF a, x, rfl, rfl, CR_0 hc, fun q => ?_, fun q => ?_⟩
  · refine ⟨M, c, aF a, y, rfl, rfl, CR_0 hc, fun q2 => ?_, fun q2 => ?_⟩
    · obtain ⟨n, rfl⟩ := Int.eq_ofNat_of_zero_le q.1
      obtain ⟨m, rfl⟩ := Int.eq_ofNat_of_zero_le q2.1
      refine ⟨(none, M), c, aF a, n, m, rfl, rfl, hc.2.1.1, by omega, by omega, ?_⟩
      exact CP_0 h2 (if_pos ⟨q, q2⟩) hc
    · exact CP_1 h2 (if_neg (fun z => q2 z.2)) hc
  · exact CP_1 h2 (if_neg (fun z => q z.1)) hc
theorem m_X9_curve (l : Launch) (hl : l.stackTraces = false) : mm_MetX l yX9_curve cX9_curve 3 (some .int) 7 2 12 T_X9_curve := mm_metX (E := e_X9_curve) (cd := kX9_curve) s_X9_curve (by decide) kX9_curve_ok (by decide +kernel) (by decide +kernel) (Or.inr (Or.inl ⟨rfl, rfl⟩)) rfl hl (by decide) (by decide +kernel) (mm_eokt (mm_eok_X9 _)) (mm_cz_cons (Or.inr (mm_cxv wi_X9_needElement (tb4 (i := 112) rfl rfl) (m_X9_needElement l hl) (by decide) (by decide) rfl)) (mm_cz_cons (Or.inl (mm_CQ_of (mm_cbv wi_X0_curvePoints (tb5 (i := 64) rfl rfl) (m_X0_curvePoints l) (by decide) (by decide) rfl))) (mm_cz_nil)))
def T_X9_same : Tr := fun av h N X => ∃ (M : List ME) (c : CS) (a : AS) (x y : Int), av = [mR 0, mI x, mI y] ∧ h = hC (none, M) c ∧ CR a c ∧ CP M a (xSame a x y) N X
abbrev e_X9_same : NE := (ftX9, [(200, (2, 1, 6, true, (0, 9), T_X9_needPlace)), (225, (3, 0, 0, false, (0, 4), T_X4_alikeValues))], ltX9, [], [], false, 2, (2, 12), [], [], [], true)
theorem s_X9_same : mm_Spec e_X9_same kX9_same 3 T_X9_same := by
  rintro N X K av h hK ⟨M, c, a, x, y, rfl, rfl, hc, h2⟩
  refine ⟨rfl, hK [] _ _ _ _ _ _ ?_⟩
  refine ⟨M, c, x, rfl, rfl, fun q => ?_, fun q => ?_⟩
  · refine ⟨M, c, y, rfl, rfl, fun q2 => ?_, fun q2 => ?_⟩
    · obtain ⟨n, rfl⟩ := Int.eq_ofNat_of_zero_le q.1
      obtain ⟨m, rfl⟩ := Int.eq_ofNat_of_zero_le q2.1
      refine And.intro (by omega) ?_
      refine And.intro (by omega) ?_
      refine ⟨(none, M), c, aF a, 0 + n, 0 + m, rfl, rfl, hc.2.1.2, by omega, by omega, ?_⟩
      have e1 : bi (∀ t : Nat, t < fD (aF a) → c.2.2.2.1 (0 + n) (t : Int) = c.2.2.2.1 (0 + m) (t : Int)) = if sameV (aF a) (vL (aP a n)) (vL (aP a m)) then 1 else 0 := by
        refine bi_iff (d := sameV (aF a) (vL (aP a n)) (vL (aP a m))) ⟨fun z t ht => ?_, fun z t ht => ?_⟩
        · have := z t ht
          rw [Nat.zero_add, Nat.zero_add, hc.2.2.2.1 n t (by omega) ht, hc.2.2.2.1 m t (by omega) ht] at this
          show Int64.ofInt _ = Int64.ofInt _
          rw [this]
        · have := vL_inj (hc.1.2.1 n t (by omega) ht) (hc.1.2.1 m t (by omega) ht) (z t ht)
          rw [Nat.zero_add, Nat.zero_add, hc.2.2.2.1 n t (by omega) ht, hc.2.2.2.1 m t (by omega) ht]
          exact this
      rw [e1]
      refine And.intro (by split <;> simp) ?_
      exact CP_0 h2 (if_pos ⟨q, q2⟩) hc
    · exact CP_1 h2 (if_neg (fun z => q2 z.2)) hc
  · exact CP_1 h2 (if_neg (fun z => q z.1)) hc
theorem m_X9_same (l : Launch) (hl : l.stackTraces = false) : mm_MetX l yX9_same cX9_same 3 (some .boolean) 7 2 12 T_X9_same := mm_metX (E := e_X9_same) (cd := kX9_same) s_X9_same (by decide) kX9_same_ok (by decide +kernel) (by decide +kernel) (Or.inr (Or.inr (Or.inl ⟨rfl, rfl⟩))) rfl hl (by decide) (by decide +kernel) (mm_eokt (mm_eok_X9 _)) (mm_cz_cons (Or.inr (mm_cxv wi_X9_needPlace (tb4 (i := 166) rfl rfl) (m_X9_needPlace l hl) (by decide) (by decide) rfl)) (mm_cz_cons (Or.inl (mm_CQ_of (mm_cbv wi_X4_alikeValues (tb4 (i := 210) rfl rfl) (m_X4_alikeValues l) (by decide) (by decide) rfl))) (mm_cz_nil)))
def T_X9_let : Tr := fun av h N X => ∃ (M : List ME) (c : CS) (a : AS) (x v : Int), av = [mR 0, mI x, mI v] ∧ h = hC (none, M) c ∧ CR a c ∧ CP M (xLet a x v).1 (xLet a x v).2 N X
theorem CR_W {a : AS} {c : CS} (h : CR a c) {W : Nat → Int} {A : Int → Int} (h1 : ∀ x, x < 27 → -99 ≤ W x ∧ W x ≤ 99) (h2 : ∀ x : Nat, x < 27 → A (x : Int) = W x) : CR (aSetW a W) (kA c 16 A) := by
  obtain ⟨g1, ⟨g2, g3⟩, g4, g6, g7, g8, g10, g11, g12⟩ := h
  have hF : FC [] [16] [] c (kA c 16 A) := FC_A (FC_rf c) rfl
  refine ⟨⟨g1.1, g1.2.1, h1, g1.2.2.2⟩, ⟨CF_fr g2 hF rfl rfl, CG_fr g3 hF rfl rfl⟩, g4, g6, h2, g8, g10, g11, g12⟩
abbrev e_X9_let : NE := (ftX9, [(168, (2, 1, 6, true, (0, 9), T_X9_needElement))], ltX9, [], [], false, 1, (2, 12), [], [], [(17, xI)], true)
theorem s_X9_let : mm_Spec e_X9_let kX9_let 4 T_X9_let := by
  rintro N X K av h hK ⟨M, c, a, x, v, rfl, rfl, hc, h2⟩
  have hb := fbase hc.1.1
  refine ⟨rfl, hK [] _ _ _ _ _ _ ?_⟩
  refine ⟨M, c, aF a, x, rfl, rfl, CR_0 hc, fun q => ?_, fun q => ?_⟩
  · obtain ⟨n, rfl⟩ := Int.eq_ofNat_of_zero_le q.1
    have ex : xLet a n v = if -99 ≤ v ∧ v ≤ 99 then (aSetW a (fun i => if i = n then v else aW a i), 0, aW a n) else (a, 2, 0) := if_pos q
    rw [ex] at h2
    refine And.intro (fun q2 => ?_) (fun q2 => ?_)
    · rw [if_neg (by omega)] at h2
      exact CP_2 h2 rfl hc
    refine And.intro (fun q3 => ?_) (fun q3 => ?_)
    · rw [if_pos ⟨by omega, by omega⟩] at h2
      refine And.intro (by omega) ?_
      refine And.intro (by omega) ?_
      have hcw : CR (aSetW a (fun i => if i = n then v else aW a i)) (kA c 16 (mm_upd (c.2.1 16) (n : Int) v)) := by
        refine CR_W hc (fun x hx => ?_) (fun x hx => ?_)
        · split
          · omega
          · exact hc.1.2.2.1 x hx
        · show mm_upd (c.2.1 16) (n : Int) v (x : Int) = if x = n then v else aW a x
          unfold mm_upd
          by_cases e : x = n
          · rw [if_pos e, if_pos (by omega)]
          · rw [if_neg e, if_neg (by omega)]
            exact hc.2.2.2.2.1 x hx
      have k2 := CP_0 h2 (v := aW a n) rfl hcw
      rw [← hc.2.2.2.2.1 n (by omega)] at k2
      exact k2
    · rw [if_neg (by omega)] at h2
      exact CP_2 h2 rfl hc
  · rw [show xLet a x v = (a, 1, 0) from if_neg q] at h2
    exact CP_1 h2 rfl hc
theorem m_X9_let (l : Launch) (hl : l.stackTraces = false) : mm_MetX l yX9_let cX9_let 4 (some .int) 7 2 12 T_X9_let := mm_metX (E := e_X9_let) (cd := kX9_let) s_X9_let (by decide) kX9_let_ok (by decide +kernel) (by decide +kernel) (Or.inr (Or.inl ⟨rfl, rfl⟩)) rfl hl (by decide) (by decide +kernel) (mm_eokt (mm_eok_X9 _)) (mm_cz_cons (Or.inr (mm_cxv wi_X9_needElement (tb4 (i := 112) rfl rfl) (m_X9_needElement l hl) (by decide) (by decide) rfl)) (mm_cz_nil))
