/-! the component: feeding the tape -/
theorem CR_T {a : AS} {c c' : CS} (h : CR a c) (hF : FC [24] [17] [] c c') {n : Nat} {T : Nat → Int} (hn : c'.1 24 = (n : Nat)) (hn2 : n ≤ 200) (h1 : ∀ i, i < n → 0 ≤ T i ∧ T i ≤ 255) (h2 : ∀ i : Nat, i < n → c'.2.1 17 (i : Int) = T i) : CR (aSetT a n T) c' := by
  obtain ⟨g1, ⟨g2, g3⟩, g4, g6, g7, g8, g10, g11, g12⟩ := h
  refine ⟨⟨g1.1, g1.2.1, g1.2.2.1, hn2, h1, g1.2.2.2.2.2⟩, ⟨CF_fr g2 hF rfl rfl, CG_fr g3 hF rfl rfl⟩, ⟨?_, ?_, TW_fr g4.2.2 hF rfl rfl rfl⟩, ?_, ?_, ⟨hn, h2⟩, ?_, ?_, ?_⟩
  · rw [hF.1 4 rfl]; exact g4.1
  · rw [hF.1 5 rfl]; exact g4.2.1
  · intro i t hi ht
    rw [hF.2.2.2]; exact g6 i t hi ht
  · intro x hx
    rw [hF.2.1 16 rfl]; exact g7 x hx
  · rw [hF.1 25 rfl]; exact g10
  · rw [hF.1 23 rfl]; exact g11
  · intro i hi
    rw [hF.2.1 34 rfl]; exact g12 i hi
def T_X9_feed : Tr := fun av h N _ => ∃ (M : List ME) (c : CS) (a : AS) (x y z u v : Int), av = [mR 0, mI x, mI y, mI z, mI u, mI v] ∧ h = hC (none, M) c ∧ CR a c ∧ ∀ c' : CS, CR (xFeed a x y z u v).1 c' → N (some (mI (xFeed a x y z u v).2)) (hC (none, M) c')
abbrev e_X9_feed : NE := (ftX9, [(98, (2, 0, 0, false, (0, 9), T_X9_append))], ltX9, [], [], false, 1, (0, 0), [], [], [], true)
theorem s_X9_feed : mm_Spec e_X9_feed kX9_feed 6 T_X9_feed := by
  rintro N X K av h hK ⟨M, c, a, x, y, z, u, v, rfl, rfl, hc, h2⟩
  have h24 : c.1 24 = (aTn a : Nat) := hc.2.2.2.2.2.1.1
  have hn200 := hc.1.2.2.2.1
  refine ⟨rfl, hK [] _ _ _ _ _ _ ?_⟩
  conv => whnf
  rw [h24]
  refine And.intro (rng_of (by omega) (by omega)) ?_
  refine And.intro (fun q => ?_) (fun q => ?_)
  · unfold xFeed at h2
    rw [if_pos (show aTn a ≤ 180 by omega)] at h2
    refine ⟨M, c, aTn a, x, rfl, rfl, h24, by omega, fun c1 F1 n1 t1 => ?_⟩
    refine ⟨M, c1, aTn a + 4, y, rfl, rfl, n1, by omega, fun c2 F2 n2 t2 => ?_⟩
    refine ⟨M, c2, aTn a + 4 + 4, z, rfl, rfl, n2, by omega, fun c3 F3 n3 t3 => ?_⟩
    refine ⟨M, c3, aTn a + 4 + 4 + 4, u, rfl, rfl, n3, by omega, fun c4 F4 n4 t4 => ?_⟩
    refine ⟨M, c4, aTn a + 4 + 4 + 4 + 4, v, rfl, rfl, n4, by omega, fun c5 F5 n5 t5 => ?_⟩
    have e5 : c5.1 24 = ((aTn a + 20 : Nat) : Int) := n5
    have hF : FC [24] [17] [] c c5 := FC_tr (FC_tr (FC_tr (FC_tr F1 F2 rfl rfl rfl) F3 rfl rfl rfl) F4 rfl rfl rfl) F5 rfl rfl rfl
    have k2 := h2 c5 (CR_T hc hF e5 (by omega) (fun i hi => ?_) (fun i hi => ?_))
    · rw [← e5] at k2
      exact k2
    · split
      · rename_i w
        exact hc.1.2.2.2.2.1 i w
      · exact and255_rng _
    · rw [t5 i (by omega), t4 i (by omega), t3 i (by omega), t2 i (by omega), t1 i (by omega)]
      by_cases w0 : i < aTn a
      · rw [if_pos w0, if_neg (by omega), if_neg (by omega), if_neg (by omega), if_neg (by omega), if_neg (by omega)]
        exact hc.2.2.2.2.2.1.2 i w0
      rw [if_neg w0]
      by_cases w1 : i < aTn a + 4
      · rw [if_neg (by omega), if_neg (by omega), if_neg (by omega), if_neg (by omega), if_pos ⟨by omega, by omega⟩, if_pos w1, show (i - aTn a) % 4 = i - aTn a by omega]
      rw [if_neg w1]
      by_cases w2 : i < aTn a + 8
      · rw [if_neg (by omega), if_neg (by omega), if_neg (by omega), if_pos ⟨by omega, by omega⟩, if_pos w2, show (i - aTn a) % 4 = i - (aTn a + 4) by omega]
      rw [if_neg w2]
      by_cases w3 : i < aTn a + 12
      · rw [if_neg (by omega), if_neg (by omega), if_pos ⟨by omega, by omega⟩, if_pos w3, show (i - aTn a) % 4 = i - (aTn a + 4 + 4) by omega]
      rw [if_neg w3]
      by_cases w4 : i < aTn a + 16
      · rw [if_neg (by omega), if_pos ⟨by omega, by omega⟩, if_pos w4, show (i - aTn a) % 4 = i - (aTn a + 4 + 4 + 4) by omega]
      rw [if_neg w4, if_pos ⟨by omega, by omega⟩, show (i - aTn a) % 4 = i - (aTn a + 4 + 4 + 4 + 4) by omega]
  · rw [show xFeed a x y z u v = (a, -1) from if_neg (by omega)] at h2
    exact h2 c hc
theorem m_X9_feed (l : Launch) : mm_Met l yX9_feed cX9_feed 6 (some .int) 1 0 0 T_X9_feed := mm_met (E := e_X9_feed) (cd := kX9_feed) s_X9_feed (by decide) kX9_feed_ok (by decide +kernel) (by decide +kernel) (Or.inr (Or.inl ⟨rfl, rfl⟩)) rfl (mm_eok_X9 _) (mm_calls_cons (mm_cbv wi_X9_append (tb2 (i := 200) rfl rfl) (m_X9_append l) (by decide) (by decide) rfl) (mm_calls_nil))
