/-! the component: what can be made -/
theorem cM_0 {f : Nat} {x y z : Int} : canM f 0 x y z ↔ okC f x ∧ okE f y := by
  refine ⟨fun h => ?_, fun h => Or.inl ⟨rfl, h⟩⟩
  rcases h with h | h | h | h | h | h | h | h <;> first | exact h.2 | exact absurd h.1 (by decide)
theorem cM_1 {f : Nat} {x y z : Int} : canM f 1 x y z ↔ okC f x ∧ okC f y ∧ okE f z := by
  refine ⟨fun h => ?_, fun h => Or.inr (Or.inl ⟨rfl, h⟩)⟩
  rcases h with h | h | h | h | h | h | h | h <;> first | exact h.2 | exact absurd h.1 (by decide)
theorem cM_2 {f : Nat} {x y z : Int} : canM f 2 x y z ↔ okE f x ∧ okE f y := by
  refine ⟨fun h => ?_, fun h => Or.inr (Or.inr (Or.inl ⟨rfl, h⟩))⟩
  rcases h with h | h | h | h | h | h | h | h <;> first | exact h.2 | exact absurd h.1 (by decide)
theorem cM_3 {f : Nat} {x y z : Int} : canM f 3 x y z ↔ okK f x y := by
  refine ⟨fun h => ?_, fun h => Or.inr (Or.inr (Or.inr (Or.inl ⟨rfl, h⟩)))⟩
  rcases h with h | h | h | h | h | h | h | h <;> first | exact h.2 | exact absurd h.1 (by decide)
theorem cM_4 {f : Nat} {x y z : Int} : canM f 4 x y z ↔ okP x ∧ okM f y := by
  refine ⟨fun h => ?_, fun h => Or.inr (Or.inr (Or.inr (Or.inr (Or.inl ⟨rfl, h⟩))))⟩
  rcases h with h | h | h | h | h | h | h | h <;> first | exact h.2 | exact absurd h.1 (by decide)
theorem cM_5 {f : Nat} {x y z : Int} : canM f 5 x y z ↔ okE f x := by
  refine ⟨fun h => ?_, fun h => Or.inr (Or.inr (Or.inr (Or.inr (Or.inr (Or.inl ⟨rfl, h⟩)))))⟩
  rcases h with h | h | h | h | h | h | h | h <;> first | exact h.2 | exact absurd h.1 (by decide)
theorem cM_6 {f : Nat} {x y z : Int} : canM f 6 x y z ↔ okC f x := by
  refine ⟨fun h => ?_, fun h => Or.inr (Or.inr (Or.inr (Or.inr (Or.inr (Or.inr (Or.inl ⟨rfl, h⟩))))))⟩
  rcases h with h | h | h | h | h | h | h | h <;> first | exact h.2 | exact absurd h.1 (by decide)
theorem cM_7 {f : Nat} {x y z : Int} : canM f 7 x y z ↔ 0 ≤ x ∧ x < (fN f : Int) := by
  refine ⟨fun h => ?_, fun h => Or.inr (Or.inr (Or.inr (Or.inr (Or.inr (Or.inr (Or.inr (⟨rfl, h⟩)))))))⟩
  rcases h with h | h | h | h | h | h | h | h <;> first | exact h.2 | exact absurd h.1 (by decide)
def T_X9_canMake : Tr := fun av h N _ => ∃ (M : List ME) (c : CS) (a : AS) (how x y z : Int), av = [mR 0, mI how, mI x, mI y, mI z] ∧ h = hC (none, M) c ∧ CR a c ∧ N (some (mI (bi (canM (aF a) how x y z)))) h
abbrev e_X9_canMake : NE := (ftX9, [(340, (2, 0, 0, false, (0, 1), T_X1_hasCharacter)), (343, (2, 0, 0, false, (0, 1), T_X1_has)), (314, (3, 0, 0, false, (0, 1), T_X1_hasClass)), (102, (2, 0, 0, false, (0, 9), T_X9_isPlace)), (346, (2, 0, 0, false, (0, 4), T_X4_moves))], ltX9, [], [], false, 2, (0, 0), [], [], [], true)
theorem s_X9_canMake : mm_Spec e_X9_canMake kX9_canMake 5 T_X9_canMake := by
  rintro N X K av h hK ⟨M, c, a, how, x, y, z, rfl, rfl, hc, h2⟩
  have h0 := CR_0 hc
  have hG := hc.2.1.2
  have hy : canM (aF a) how x y z → (((1 : Int) = 0 ∨ (1 : Int) = 1) ∧ N (some (mI 1)) (hC (none, M) c)) := fun q => by rw [bi_t q] at h2; exact ⟨Or.inr rfl, h2⟩
  have hn : ¬ canM (aF a) how x y z → (((0 : Int) = 0 ∨ (0 : Int) = 1) ∧ N (some (mI 0)) (hC (none, M) c)) := fun q => by rw [bi_f q] at h2; exact ⟨Or.inl rfl, h2⟩
  refine ⟨rfl, hK [] _ _ _ _ _ _ ?_⟩
  refine ⟨fun q => ?_, fun q => ?_, fun q => ?_, fun q => ?_, fun q => ?_, fun q => ?_, fun q => ?_, fun q => ?_, fun q => ?_, trivial⟩
  · refine hn (fun w => ?_)
    rcases w with w | w | w | w | w | w | w | w <;> (have := w.1; omega)
  · subst q
    refine ⟨(none, M), c, aF a, x, rfl, rfl, h0, ?_⟩
    refine And.intro (fun q1 => hn (fun w => bi_c0 q1 (cM_0.mp w).1)) (fun q1 => ?_)
    refine ⟨(none, M), c, aF a, y, rfl, rfl, h0, ?_⟩
    exact And.intro (fun q2 => hn (fun w => bi_c0 q2 (cM_0.mp w).2)) (fun q2 => hy (cM_0.mpr ⟨bi_c1 q1, bi_c1 q2⟩))
  · subst q
    refine ⟨(none, M), c, aF a, x, rfl, rfl, h0, ?_⟩
    refine And.intro (fun q1 => hn (fun w => bi_c0 q1 (cM_1.mp w).1)) (fun q1 => ?_)
    refine ⟨(none, M), c, aF a, y, rfl, rfl, h0, ?_⟩
    refine And.intro (fun q2 => hn (fun w => bi_c0 q2 (cM_1.mp w).2.1)) (fun q2 => ?_)
    refine ⟨(none, M), c, aF a, z, rfl, rfl, h0, ?_⟩
    exact And.intro (fun q3 => hn (fun w => bi_c0 q3 (cM_1.mp w).2.2)) (fun q3 => hy (cM_1.mpr ⟨bi_c1 q1, bi_c1 q2, bi_c1 q3⟩))
  · subst q
    refine ⟨(none, M), c, aF a, x, rfl, rfl, h0, ?_⟩
    refine And.intro (fun q1 => hn (fun w => bi_c0 q1 (cM_2.mp w).1)) (fun q1 => ?_)
    refine ⟨(none, M), c, aF a, y, rfl, rfl, h0, ?_⟩
    exact And.intro (fun q2 => hn (fun w => bi_c0 q2 (cM_2.mp w).2)) (fun q2 => hy (cM_2.mpr ⟨bi_c1 q1, bi_c1 q2⟩))
  · subst q
    refine ⟨(none, M), c, aF a, x, y, rfl, rfl, h0, And.intro (bi_01 _) ?_⟩
    rw [bi_iff (cM_3 (z := z)).symm]
    exact h2
  · subst q
    refine ⟨x, rfl, ?_⟩
    refine And.intro (fun q1 => hn (fun w => bi_c0 q1 (cM_4.mp w).1)) (fun q1 => ?_)
    refine ⟨(none, M), c, aF a, y, rfl, rfl, hG, ?_⟩
    exact And.intro (fun q2 => hn (fun w => bi_c0 q2 (cM_4.mp w).2)) (fun q2 => hy (cM_4.mpr ⟨bi_c1 q1, bi_c1 q2⟩))
  · subst q
    refine ⟨(none, M), c, aF a, x, rfl, rfl, h0, And.intro (bi_01 _) ?_⟩
    rw [bi_iff (cM_5 (y := y) (z := z)).symm]
    exact h2
  · subst q
    refine ⟨(none, M), c, aF a, x, rfl, rfl, h0, And.intro (bi_01 _) ?_⟩
    rw [bi_iff (cM_6 (y := y) (z := z)).symm]
    exact h2
  · subst q
    refine And.intro (fun q1 => hn (fun w => absurd (cM_7.mp w).1 (by omega))) (fun q1 => ?_)
    conv => whnf
    rw [hG.2.1]
    exact And.intro (fun q2 => hn (fun w => absurd (cM_7.mp w).2 (by omega))) (fun q2 => hy (cM_7.mpr ⟨by omega, by omega⟩))
theorem m_X9_canMake (l : Launch) : mm_Met l yX9_canMake cX9_canMake 5 (some .boolean) 2 0 0 T_X9_canMake := mm_met (E := e_X9_canMake) (cd := kX9_canMake) s_X9_canMake (by decide) kX9_canMake_ok (by decide +kernel) (by decide +kernel) (Or.inr (Or.inr (Or.inl ⟨rfl, rfl⟩))) rfl (mm_eok_X9 _) (mm_calls_cons (mm_cbv wi_X1_hasCharacter (tb2 (i := 220) rfl rfl) (m_X1_hasCharacter l) (by decide) (by decide) rfl) (mm_calls_cons (mm_cbv wi_X1_has (tb2 (i := 224) rfl rfl) (m_X1_has l) (by decide) (by decide) rfl) (mm_calls_cons (mm_cbv wi_X1_hasClass (tb2 (i := 228) rfl rfl) (m_X1_hasClass l) (by decide) (by decide) rfl) (mm_calls_cons (mm_cbv wi_X9_isPlace (tb2 (i := 212) rfl rfl) (m_X9_isPlace l) (by decide) (by decide) rfl) (mm_calls_cons (mm_cbv wi_X4_moves (tb2 (i := 236) rfl rfl) (m_X4_moves l) (by decide) (by decide) rfl) (mm_calls_nil))))))
