/-! the component: making -/
theorem CR_P {a : AS} {c : CS} (h : CR a c) {p : Nat} (hp : p < 8) {V : Nat → Int} {G : Int → Int64} {b : Int → Int} (h1 : ∀ t, t < fD (aF a) → -1000000 ≤ V t ∧ V t ≤ 1000000) (h2 : ∀ t : Nat, t < fD (aF a) → b (t : Int) = V t) : CR (aSetP a p V) (kR (kL c 12 G) (mm_updR c.2.2.2.1 p b)) := by
  obtain ⟨g1, g2, g4, g6, g7, g8, g10, g11, g12⟩ := h
  refine ⟨⟨g1.1, fun i t hi ht => ?_, g1.2.2⟩, g2, g4, fun i t hi ht => ?_, g7, g8, g10, g11, g12⟩
  · show -1000000 ≤ (if i = p then V else aP a i) t ∧ (if i = p then V else aP a i) t ≤ 1000000
    by_cases e : i = p
    · rw [if_pos e]; exact h1 t ht
    · rw [if_neg e]; exact g1.2.1 i t hi ht
  · show mm_updR c.2.2.2.1 p b i (t : Int) = (if i = p then V else aP a i) t
    unfold mm_updR
    by_cases e : i = p
    · rw [if_pos e, if_pos (by omega)]; exact h2 t ht
    · rw [if_neg e, if_neg (by omega)]; exact g6 i t hi ht
def T_X9_make : Tr := fun av h N _ => ∃ (M : List ME) (c : CS) (a : AS) (p how x y z : Int), av = [mR 0, mI p, mI how, mI x, mI y, mI z] ∧ h = hC (none, M) c ∧ CR a c ∧ ∀ c' : CS, CR (xMake a p how x y z).1 c' → N (some (mI (xMake a p how x y z).2)) (hC (none, M) c')
abbrev e_X9_make : NE := (ftX9, [(102, (2, 0, 0, false, (0, 9), T_X9_isPlace)), (229, (5, 0, 0, false, (0, 9), T_X9_canMake)), (233, (3, 0, 0, false, (0, 6), T_X6_gauss)), (237, (4, 0, 0, false, (0, 6), T_X6_jacobi)), (240, (3, 0, 0, false, (0, 6), T_X6_kloosterman)), (243, (3, 0, 0, false, (0, 6), T_X6_period)), (246, (3, 0, 0, false, (0, 4), T_X4_move)), (250, (2, 0, 0, false, (0, 6), T_X6_spectrum)), (253, (2, 0, 0, false, (0, 6), T_X6_mellin)), (256, (2, 0, 0, false, (0, 4), T_X4_moveRoot)), (259, (2, 0, 0, false, (0, 4), T_X4_take)), (141, (2, 0, 0, false, (0, 4), T_X4_terms))], ltX9, [], [], false, 1, (0, 0), [], [], [], true)
theorem s_X9_make : mm_Spec e_X9_make kX9_make 6 T_X9_make := by
  rintro N X K av h hK ⟨M, c, a, p, how, x, y, z, rfl, rfl, hc, h2⟩
  have h0 := CR_0 hc
  have hG := hc.2.1.2
  have hb := fbase h0.1
  have fin : ∀ (G : Int → Int64) (V : Nat → Int64), okP p → canM (aF a) how x y z → (∀ t, t < fD (aF a) → gV (aF a) G t = V t) → makV a how x y z = V → K 170 [some (mR 0), some (mI p), some (mI how), some (mI x), some (mI y), some (mI z)] [] (hC (none, M) (kL c 12 G)) 0 0 := by
    intro G V qp qm hV hm
    obtain ⟨n, rfl⟩ := Int.eq_ofNat_of_zero_le qp.1
    have hs : small (aF a) (gV (aF a) G) ↔ small (aF a) (makV a how x y z) := by
      rw [hm]
      exact ⟨fun w t ht => by rw [← hV t ht]; exact w t ht, fun w t ht => by rw [hV t ht]; exact w t ht⟩
    have ex : xMake a n how x y z = if small (aF a) (makV a how x y z) then (aSetP a n (fun t => (makV a how x y z t).toInt), (nzc (makV a how x y z) (fD (aF a)) : Int)) else (a, -2) := if_pos ⟨qp, qm⟩
    rw [ex] at h2
    refine hK [] _ _ _ _ _ _ ?_
    refine And.intro (by omega) ?_
    refine ⟨(none, M), kL c 12 G, aF a, 0 + n, rfl, rfl, hG, by omega, fun G2 b hG2 hb1 hb2 => ?_⟩
    refine And.intro (fun q => ?_) (fun q => ?_)
    · have q := bi_c0 q
      rw [if_neg (fun w => q (hs.mpr w))] at h2
      refine h2 _ ?_
      have e : mm_updR c.2.2.2.1 (0 + n) b = c.2.2.2.1 := by
        rw [show b = c.2.2.2.1 (0 + n) from hb2 q]
        funext i
        unfold mm_updR
        split
        · rename_i w; rw [w]
        · rfl
      show CR a (kR (kL (kL c 12 G) 12 G2) (mm_updR c.2.2.2.1 (0 + n) b))
      rw [e]
      exact hc
    · have q := bi_c1 q
      rw [if_pos (hs.mp q)] at h2
      have hrow : ∀ t : Nat, t < fD (aF a) → (kR (kL (kL c 12 G) 12 G2) (mm_updR (kL c 12 G).2.2.2.1 (0 + n) b)).2.2.2.1 (0 + n) (t : Int) = (makV a how x y z t).toInt := fun t ht => by
        show mm_updR c.2.2.2.1 (0 + n) b (0 + n) (t : Int) = _
        unfold mm_updR
        rw [if_pos rfl, hb1 q t ht, hm]
        show (gV (aF a) G t).toInt = _
        rw [hV t ht]
      have hsm := hs.mp q
      refine And.intro (by omega) ?_
      refine ⟨(none, M), _, aF a, 0 + n, rfl, rfl, hG, by omega, fun t ht => by rw [hrow t ht]; exact hsm t ht, ?_⟩
      rw [nzc_congr (V' := makV a how x y z) (fD (aF a)) (fun t ht => by
        unfold rowV
        rw [hrow t ht]
        exact Int64.ofInt_toInt _)]
      rw [← Nat.zero_add n] at h2
      exact h2 _ (CR_P (CR_g hc G) (p := 0 + n) (by omega) hsm (fun t ht => by
        rw [hb1 q t ht, hm]
        show (gV (aF a) G t).toInt = _
        rw [hV t ht]))
  refine ⟨rfl, hK [170] _ _ _ _ _ _ ?_⟩
  refine ⟨p, rfl, ?_⟩
  have bad : ¬ (okP p ∧ canM (aF a) how x y z) → N (some (mI (-1))) (hC (none, M) c) := fun q => by
    rw [show xMake a p how x y z = (a, -1) from if_neg q] at h2
    exact h2 c hc
  refine And.intro (fun q => bad (fun w => bi_c0 q w.1)) (fun q => ?_)
  have qp := bi_c1 q
  refine ⟨M, c, a, how, x, y, z, rfl, rfl, hc, ?_⟩
  refine And.intro (fun q => ?_) (fun q => bad (fun w => absurd (bi_t w.2) (by omega)))
  have qm := bi_c1 q
  refine ⟨fun q => ?_, fun q => ?_, fun q => ?_, fun q => ?_, fun q => ?_, fun q => ?_, fun q => ?_, fun q => ?_, trivial⟩
  · have e : how = 7 := by
      rcases qm with w | w | w | w | w | w | w | w <;> (have := w.1; omega)
    subst e
    have w := cM_7.mp qm
    obtain ⟨x, rfl⟩ := Int.eq_ofNat_of_zero_le w.1
    exact ⟨(none, M), c, aF a, x, rfl, rfl, hG, by omega, fun G hg => fin G _ qp qm hg rfl⟩
  · subst q
    have w := cM_0.mp qm
    obtain ⟨x, rfl⟩ := Int.eq_ofNat_of_zero_le w.1.1
    obtain ⟨y, rfl⟩ := Int.eq_ofNat_of_zero_le w.2.1
    exact ⟨(none, M), c, aF a, x, y, rfl, rfl, hc.2.1, by omega, by omega, fun G hg => fin G _ qp qm hg rfl⟩
  · subst q
    have w := cM_1.mp qm
    obtain ⟨x, rfl⟩ := Int.eq_ofNat_of_zero_le w.1.1
    obtain ⟨y, rfl⟩ := Int.eq_ofNat_of_zero_le w.2.1.1
    obtain ⟨z, rfl⟩ := Int.eq_ofNat_of_zero_le w.2.2.1
    exact ⟨(none, M), c, aF a, x, y, z, rfl, rfl, hc.2.1, by omega, by omega, by omega, fun G hg => fin G _ qp qm hg rfl⟩
  · subst q
    have w := cM_2.mp qm
    obtain ⟨x, rfl⟩ := Int.eq_ofNat_of_zero_le w.1.1
    obtain ⟨y, rfl⟩ := Int.eq_ofNat_of_zero_le w.2.1
    exact ⟨(none, M), c, aF a, x, y, rfl, rfl, hc.2.1, by omega, by omega, fun G hg => fin G _ qp qm hg rfl⟩
  · subst q
    have w := cM_3.mp qm
    have w1 := w.1
    obtain ⟨x, rfl⟩ := Int.eq_ofNat_of_zero_le (show 0 ≤ x by omega)
    obtain ⟨y, rfl⟩ := Int.eq_ofNat_of_zero_le w.2.2.1
    exact ⟨(none, M), c, aF a, x, y, rfl, rfl, hc.2.1, by omega, fun G hg => fin G _ qp qm hg rfl⟩
  · subst q
    have w := cM_4.mp qm
    have w2 := w.2.2.1
    obtain ⟨x, rfl⟩ := Int.eq_ofNat_of_zero_le w.1.1
    obtain ⟨y, rfl⟩ := Int.eq_ofNat_of_zero_le w.2.1
    refine And.intro (by omega) ?_
    refine ⟨(none, M), c, aF a, 0 + x, y, rfl, rfl, hG, by omega, by omega, fun G hg => fin G (mvV (aF a) (vL (aP a x)) y) qp qm (fun t ht => ?_) rfl⟩
    rw [hg t ht, Nat.zero_add, mvV_eq (CR_rV hc (by omega))]
  · subst q
    have w := cM_5.mp qm
    obtain ⟨x, rfl⟩ := Int.eq_ofNat_of_zero_le w.1
    exact ⟨(none, M), c, aF a, x, aW a, rfl, rfl, hc.2.1, by omega, fun v hv => hc.2.2.2.2.1 v (by omega), fun G hg => fin G _ qp qm hg rfl⟩
  · subst q
    have w := cM_6.mp qm
    obtain ⟨x, rfl⟩ := Int.eq_ofNat_of_zero_le w.1
    exact ⟨(none, M), c, aF a, x, aW a, rfl, rfl, hc.2.1, by omega, fun v hv => hc.2.2.2.2.1 v (by omega), fun G hg => fin G _ qp qm hg rfl⟩
theorem m_X9_make (l : Launch) : mm_Met l yX9_make cX9_make 6 (some .int) 3 0 0 T_X9_make := mm_met (E := e_X9_make) (cd := kX9_make) s_X9_make (by decide) kX9_make_ok (by decide +kernel) (by decide +kernel) (Or.inr (Or.inl ⟨rfl, rfl⟩)) rfl (mm_eok_X9 _) (mm_calls_cons (mm_cbv wi_X9_isPlace (tb2 (i := 212) rfl rfl) (m_X9_isPlace l) (by decide) (by decide) rfl) (mm_calls_cons (mm_cbv wi_X9_canMake (tb2 (i := 216) rfl rfl) (m_X9_canMake l) (by decide) (by decide) rfl) (mm_calls_cons (mm_cbv wi_X6_gauss (tb3 (i := 0) rfl rfl) (m_X6_gauss l) (by decide) (by decide) rfl) (mm_calls_cons (mm_cbv wi_X6_jacobi (tb3 (i := 30) rfl rfl) (m_X6_jacobi l) (by decide) (by decide) rfl) (mm_calls_cons (mm_cbv wi_X6_kloosterman (tb3 (i := 35) rfl rfl) (m_X6_kloosterman l) (by decide) (by decide) rfl) (mm_calls_cons (mm_cbv wi_X6_period (tb3 (i := 44) rfl rfl) (m_X6_period l) (by decide) (by decide) rfl) (mm_calls_cons (mm_cbv wi_X4_move (tb3 (i := 52) rfl rfl) (m_X4_move l) (by decide) (by decide) rfl) (mm_calls_cons (mm_cbv wi_X6_spectrum (tb3 (i := 61) rfl rfl) (m_X6_spectrum l) (by decide) (by decide) rfl) (mm_calls_cons (mm_cbv wi_X6_mellin (tb3 (i := 65) rfl rfl) (m_X6_mellin l) (by decide) (by decide) rfl) (mm_calls_cons (mm_cbv wi_X4_moveRoot (tb3 (i := 69) rfl rfl) (m_X4_moveRoot l) (by decide) (by decide) rfl) (mm_calls_cons (mm_cbv wi_X4_take (tb3 (i := 73) rfl rfl) (m_X4_take l) (by decide) (by decide) rfl) (mm_calls_cons (mm_cbv wi_X4_terms (tb3 (i := 83) rfl rfl) (m_X4_terms l) (by decide) (by decide) rfl) (mm_calls_nil)))))))))))))
