/-! the component: a character's order, the weights' likeness -/
theorem ordX_c : fevery (fun f => fall f (fun j => fall f (fun n => ordB f j n == Nat.beq (n * j % (fQ f - 1)) 0))) = true := by decide +kernel
theorem ordB_at {f j n : Nat} (hf : f < 15) (hj : j < fQ f) (hn : n < fQ f) : ordB f j n = Nat.beq (n * j % (fQ f - 1)) 0 := eq_of_beq (fall_at (fall_at (fevery_at ordX_c hf) hj) hn)
def T_X9_order : Tr := fun av h N X => ∃ (M : List ME) (c : CS) (a : AS) (j : Int), av = [mR 0, mI j] ∧ h = hC (none, M) c ∧ CR a c ∧ CP M a (xOrder (aF a) j) N X
abbrev e_X9_order : NE := (ftX9, [(194, (2, 1, 6, true, (0, 9), T_X9_needCharacter))], ltX9, [], [], false, 1, (1, 6), [], [], [], true)
theorem s_X9_order : mm_Spec e_X9_order kX9_order 4 T_X9_order := by
  rintro N X K av h hK ⟨M, c, a, j, rfl, rfl, hc, h2⟩
  have h0 := CR_0 hc
  have hb := fbase h0.1
  have loop : ∀ (n : Nat), okC (aF a) n → CP M a (xOrder (aF a) n) N X → ∀ (k m : Nat), m + k = fQ (aF a) → 1 ≤ m → (∀ i, 1 ≤ i → i < m → ordB (aF a) n i = false) → K 17 [some (mR 0), some (mI (n : Int)), some (mI ((fQ (aF a) - 1 : Nat) : Int)), some (mI (m : Int))] [] (hC (none, M) c) (0 + 1) (0 + 6) := by
    intro n hn h2 k
    have ex : xOrder (aF a) n = (0, ((ordX (aF a) n : Nat) : Int)) := if_pos hn
    induction k with
    | zero =>
      intro m hm h1 hall
      refine hK [17] _ _ _ _ _ _ ?_
      refine And.intro (fun _ => ?_) (fun q => absurd q (by omega))
      refine CP_0 h2 (ex.trans ?_) hc
      unfold ordX
      rw [fst0_none (fQ (aF a) - 1) 1 (fun j q2 q3 => hall j q2 (by omega)), Nat.min_eq_right (by omega)]
    | succ k ih =>
      intro m hm h1 hall
      refine hK [17] _ _ _ _ _ _ ?_
      refine And.intro (fun z => ?_) (fun z => ?_)
      · have e : m = fQ (aF a) - 1 := by omega
        refine CP_0 h2 (ex.trans ?_) hc
        unfold ordX
        rw [fst0_eq (m := fQ (aF a) - 1) (by rw [ordB_at h0.1 (by omega) (by omega), Nat.mul_mod_right]; rfl) (fQ (aF a) - 1) 1 (by omega) (by omega) (fun j q2 q3 => hall j q2 (by omega)), Nat.min_self]
      · conv => whnf
        rw [cmul]
        have hmm : m * n ≤ 27 * 27 := Nat.mul_le_mul (by omega) (by omega)
        refine And.intro (rng_nat (by omega)) ?_
        refine And.intro (dv_ok (by omega) (by omega)) ?_
        rw [tmn]
        refine And.intro (fun q => ?_) (fun q => ?_)
        · refine And.intro (rng_of (by omega) (by omega)) ?_
          refine ih (m + 1) (by omega) (by omega) (fun i i1 i2 => ?_)
          by_cases e : i = m
          · subst e
            rw [ordB_at h0.1 (by omega) (by omega)]
            cases hz : Nat.beq (i * n % (fQ (aF a) - 1)) 0 with
            | false => rfl
            | true => exact absurd (Nat.eq_of_beq_eq_true hz) (by omega)
          · exact hall i i1 (by omega)
        · refine CP_0 h2 (ex.trans ?_) hc
          unfold ordX
          rw [fst0_eq (m := m) (by rw [ordB_at h0.1 (by omega) (by omega), show m * n % (fQ (aF a) - 1) = 0 by omega]; rfl) (fQ (aF a) - 1) 1 (by omega) (by omega) (fun j q2 q3 => hall j q2 (by omega)), Nat.min_eq_left (by omega)]
  refine ⟨rfl, hK [17] _ _ _ _ _ _ ?_⟩
  refine ⟨M, c, aF a, j, rfl, rfl, h0, fun q => ?_, fun q => ?_⟩
  · obtain ⟨n, rfl⟩ := Int.eq_ofNat_of_zero_le q.1
    conv => whnf
    rw [h0.2.2.2, show (fQ (aF a) : Int) - 1 = ((fQ (aF a) - 1 : Nat) : Int) by omega]
    refine And.intro (rng_nat (by omega)) ?_
    exact loop n q h2 (fQ (aF a) - 1) 1 (by omega) (by omega) (fun i i1 i2 => by omega)
  · exact CP_1 h2 (if_neg q) hc
theorem m_X9_order (l : Launch) (hl : l.stackTraces = false) : mm_MetX l yX9_order cX9_order 4 (some .int) 7 1 6 T_X9_order := mm_metX (E := e_X9_order) (cd := kX9_order) s_X9_order (by decide) kX9_order_ok (by decide +kernel) (by decide +kernel) (Or.inr (Or.inl ⟨rfl, rfl⟩)) rfl hl (by decide) (by decide +kernel) (mm_eokt (mm_eok_X9 _)) (mm_cz_cons (Or.inr (mm_cxv wi_X9_needCharacter (tb4 (i := 146) rfl rfl) (m_X9_needCharacter l hl) (by decide) (by decide) rfl)) (mm_cz_nil))
