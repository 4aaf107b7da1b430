/-! what the component counts: curves, classes, differences; the numbers they are -/
def cv1 (f r n : Nat) : Nat := sumN (fun y => ind (Nat.beq (fprd f y y) r)) n
def cvN (f a b n : Nat) : Nat := sumN (fun x => cv1 f (fsum f (fsum f (pw f x 3) (fprd f a x)) b) (fQ f)) n
theorem cvN_le {f a b : Nat} (hf : f < 15) (n : Nat) (hn : n ≤ 27) : cvN f a b n ≤ 729 := by
  have hb := fbase hf
  have h1 : ∀ r, cv1 f r (fQ f) ≤ 27 := fun r => by
    have := sumN_le27 (g := fun y => ind (Nat.beq (fprd f y y) r)) (M := 1) (fun x => ind_le _) hb.1
    unfold cv1
    omega
  have := sumN_le27 (g := fun x => cv1 f (fsum f (fsum f (pw f x 3) (fprd f a x)) b) (fQ f)) (M := 27) (fun x => h1 _) hn
  unfold cvN
  omega
def T_X0_curvePoints : Tr := fun av h N _ => ∃ (w : CW) (c : CS) (f a b : Nat), av = [mR 19, mI a, mI b] ∧ h = hC w c ∧ CF f c ∧ a < fQ f ∧ b < fQ f ∧ N (some (mI (crvN f a b : Nat))) h
abbrev e_X0_curvePoints : NE := (ftX0, [(38, (3, 0, 0, false, (0, 1), T_X1_raised)), (42, (3, 0, 0, false, (0, 1), T_X1_times)), (45, (3, 0, 0, false, (0, 1), T_X1_plus))], ltX0, [], [], false, 1, (0, 0), [], [], [], true)
set_option maxHeartbeats 4000000 in
theorem s_X0_curvePoints : mm_Spec e_X0_curvePoints kX0_curvePoints 7 T_X0_curvePoints := by
  rintro N X K av h hK ⟨w, c, f, a, b, rfl, rfl, hF, ha, hbb, h2⟩
  have hb := fbase hF.1.1
  have hq := hF.1.2.2.2
  have rows : ∀ x : Nat, x ≤ fQ f → ∀ o5 o6 : Option MV, K 5 [some (mR 19), some (mI a), some (mI b), some (mI (cvN f a b x : Nat)), some (mI x), o5, o6] [] (hC w c) 0 0 := by
    refine mm_for (fQ f) (fun o5 o6 => ?_) (fun x hx ih o5 o6 => ?_)
    · refine hK [] _ _ _ _ _ _ ?_
      conv => whnf
      rw [hq]
      refine And.intro (fun _ => ?_) (fun q => absurd q (by omega))
      exact h2
    · have hp3 := pw_lt hF.1.1 hx 3
      have hpr := fprd_lt hF.1.1 ha hx
      have hs1 := fsum_lt hF.1.1 hp3 hpr
      have hs2 := fsum_lt hF.1.1 hs1 hbb
      have hl := cvN_le (f := f) (a := a) (b := b) hF.1.1 x (by omega)
      have cols : ∀ y : Nat, y ≤ fQ f → K 57 [some (mR 19), some (mI a), some (mI b), some (mI ((cvN f a b x + cv1 f (fsum f (fsum f (pw f x 3) (fprd f a x)) b) y : Nat) : Int)), some (mI x), some (mI (fsum f (fsum f (pw f x 3) (fprd f a x)) b : Nat)), some (mI y)] [] (hC w c) 0 0 := by
        refine mm_for (fQ f) ?_ (fun y hy ihy => ?_)
        · refine hK [5] _ _ _ _ _ _ ?_
          conv => whnf
          rw [hq]
          refine And.intro (fun _ => ?_) (fun q => absurd q (by omega))
          refine And.intro (rng_of (by omega) (by omega)) ?_
          exact ih _ _
        · have hpy := fprd_lt hF.1.1 hy hy
          have st : cv1 f (fsum f (fsum f (pw f x 3) (fprd f a x)) b) (y + 1) = cv1 f (fsum f (fsum f (pw f x 3) (fprd f a x)) b) y + ind (Nat.beq (fprd f y y) (fsum f (fsum f (pw f x 3) (fprd f a x)) b)) := rfl
          have hc1 : cv1 f (fsum f (fsum f (pw f x 3) (fprd f a x)) b) y ≤ y := by
            have := sumN_le (g := fun y => ind (Nat.beq (fprd f y y) (fsum f (fsum f (pw f x 3) (fprd f a x)) b))) (M := 1) (fun x => ind_le _) y
            unfold cv1
            omega
          refine hK [57] _ _ _ _ _ _ ?_
          conv => whnf
          rw [hq]
          refine And.intro (fun q => absurd q (by omega)) (fun _ => ?_)
          refine ⟨w, c, f, y, y, rfl, rfl, hF.1, hF.2.2.2.1, hy, hy, ?_⟩
          refine And.intro (fun z => ?_) (fun z => ?_)
          · rw [show Nat.beq (fprd f y y) (fsum f (fsum f (pw f x 3) (fprd f a x)) b) = false from beq_f (by omega)] at st
            rw [st] at ihy
            refine And.intro (rng_of (by omega) (by omega)) ?_
            exact ihy
          · rw [show fprd f y y = fsum f (fsum f (pw f x 3) (fprd f a x)) b by omega, Nat.beq_refl] at st
            rw [st] at ihy
            refine And.intro (rng_of (by omega) (by omega)) ?_
            refine And.intro (rng_of (by omega) (by omega)) ?_
            exact ihy
      refine hK [57] _ _ _ _ _ _ ?_
      conv => whnf
      rw [hq]
      refine And.intro (fun q => absurd q (by omega)) (fun _ => ?_)
      refine ⟨w, c, f, x, 3, rfl, rfl, hF.1, hF.2.2.2.2.1, hx, by omega, by omega, ?_⟩
      refine ⟨w, c, f, a, x, rfl, rfl, hF.1, hF.2.2.2.1, ha, hx, ?_⟩
      refine ⟨w, c, f, _, _, rfl, rfl, hF.1, hF.2.1, hp3, hpr, ?_⟩
      refine ⟨w, c, f, _, b, rfl, rfl, hF.1, hF.2.1, hs1, hbb, ?_⟩
      exact cols 0 (by omega)
  refine ⟨rfl, hK [5] _ _ _ _ _ _ ?_⟩
  exact rows 0 (by omega) _ _
theorem m_X0_curvePoints (l : Launch) : mm_Met l yX0_curvePoints cX0_curvePoints 7 (some .int) 1 0 0 T_X0_curvePoints := mm_met (E := e_X0_curvePoints) (cd := kX0_curvePoints) s_X0_curvePoints (by decide) kX0_curvePoints_ok (by decide +kernel) (by decide +kernel) (Or.inr (Or.inl ⟨rfl, rfl⟩)) rfl (mm_eok_X0 _) (mm_calls_cons (mm_cbv wi_X1_raised (tb4 (i := 235) rfl rfl) (m_X1_raised l) (by decide) (by decide) rfl) (mm_calls_cons (mm_cbv wi_X1_times (tb4 (i := 236) rfl rfl) (m_X1_times l) (by decide) (by decide) rfl) (mm_calls_cons (mm_cbv wi_X1_plus (tb4 (i := 237) rfl rfl) (m_X1_plus l) (by decide) (by decide) rfl) (mm_calls_nil))))
def nbB (f e i j x : Nat) : Bool := (!(Nat.beq x 0)) && (Nat.beq (flog f x % e) i && ((!(Nat.beq (fsum f 1 x) 0)) && Nat.beq (flog f (fsum f 1 x) % e) j))
def T_X0_neighbours : Tr := fun av h N _ => ∃ (w : CW) (c : CS) (f e i j : Nat), av = [mR 19, mI e, mI i, mI j] ∧ h = hC w c ∧ CF f c ∧ 1 ≤ e ∧ N (some (mI (cycN2 f e i j : Nat))) h
abbrev e_X0_neighbours : NE := (ftX0, [(48, (4, 0, 0, false, (0, 1), T_X1_inClass)), (45, (3, 0, 0, false, (0, 1), T_X1_plus))], ltX0, [], [], false, 1, (0, 0), [], [], [], true)
set_option maxHeartbeats 4000000 in
theorem s_X0_neighbours : mm_Spec e_X0_neighbours kX0_neighbours 6 T_X0_neighbours := by
  rintro N X K av h hK ⟨w, c, f, e, i, j, rfl, rfl, hF, he, h2⟩
  have hb := fbase hF.1.1
  have hq := hF.1.2.2.2
  have h2 : N (some (mI (cntB (nbB f e i j) (fQ f) : Nat))) (hC w c) := h2
  have loop : ∀ x : Nat, x ≤ fQ f → 1 ≤ x → K 6 [some (mR 19), some (mI e), some (mI i), some (mI j), some (mI (cntB (nbB f e i j) x : Nat)), some (mI x)] [] (hC w c) 0 0 := by
    refine mm_for (fQ f) (fun h1 => ?_) (fun x hx ih h1 => ?_)
    · refine hK [] _ _ _ _ _ _ ?_
      conv => whnf
      rw [hq]
      refine And.intro (fun _ => ?_) (fun q => absurd q (by omega))
      exact h2
    · have hl := cntB_le (nbB f e i j) x
      have hs1 := fsum_lt hF.1.1 (show 1 < fQ f by omega) hx
      have ih := ih (by omega)
      rw [cntB_s] at ih
      have no : nbB f e i j x = false → K 57 [some (mR 19), some (mI e), some (mI i), some (mI j), some (mI (cntB (nbB f e i j) x : Nat)), some (mI x)] [] (hC w c) 0 0 := by
        intro z
        rw [z] at ih
        refine hK [6] _ _ _ _ _ _ ?_
        refine And.intro (rng_of (by omega) (by omega)) ?_
        exact ih
      refine hK [6, 57] _ _ _ _ _ _ ?_
      conv => whnf
      rw [hq]
      refine And.intro (fun q => absurd q (by omega)) (fun _ => ?_)
      refine ⟨w, c, f, x, e, i, rfl, rfl, hF.1, hF.2.2.2.2.1, hx, he, ?_⟩
      refine And.intro (fun q => ?_) (fun q => ?_)
      · have q := bi_c0 q
        refine no ?_
        unfold nbB
        rw [show Nat.beq (flog f x % e) i = false from beq_f (fun z => q ⟨by omega, z⟩)]
        simp
      · have q := bi_c1 q
        refine ⟨w, c, f, 1, x, rfl, rfl, hF.1, hF.2.1, by omega, hx, ?_⟩
        refine ⟨w, c, f, _, e, j, rfl, rfl, hF.1, hF.2.2.2.2.1, hs1, he, ?_⟩
        refine And.intro (fun q2 => ?_) (fun q2 => ?_)
        · have q2 := bi_c0 q2
          refine no ?_
          unfold nbB
          by_cases z : fsum f 1 x = 0
          · rw [z]; simp
          · rw [show Nat.beq (flog f (fsum f 1 x) % e) j = false from beq_f (fun y => q2 ⟨z, y⟩)]
            simp
        · have q2 := bi_c1 q2
          have ht : nbB f e i j x = true := by
            unfold nbB
            rw [show Nat.beq x 0 = false from beq_f (by omega), q.2, Nat.beq_refl, show Nat.beq (fsum f 1 x) 0 = false from beq_f q2.1, q2.2, Nat.beq_refl]
            rfl
          rw [ht] at ih
          have h3 : K 57 [some (mR 19), some (mI e), some (mI i), some (mI j), some (mI ((cntB (nbB f e i j) x + 1 : Nat) : Int)), some (mI x)] [] (hC w c) 0 0 := by
            refine hK [6] _ _ _ _ _ _ ?_
            refine And.intro (rng_of (by omega) (by omega)) ?_
            exact ih
          refine And.intro (rng_of (by omega) (by omega)) ?_
          exact h3
  refine ⟨rfl, hK [6] _ _ _ _ _ _ ?_⟩
  exact loop 1 (by omega) (by omega)
theorem m_X0_neighbours (l : Launch) : mm_Met l yX0_neighbours cX0_neighbours 6 (some .int) 1 0 0 T_X0_neighbours := mm_met (E := e_X0_neighbours) (cd := kX0_neighbours) s_X0_neighbours (by decide) kX0_neighbours_ok (by decide +kernel) (by decide +kernel) (Or.inr (Or.inl ⟨rfl, rfl⟩)) rfl (mm_eok_X0 _) (mm_calls_cons (mm_cbv wi_X1_inClass (tb5 (i := 147) rfl rfl) (m_X1_inClass l) (by decide) (by decide) rfl) (mm_calls_cons (mm_cbv wi_X1_plus (tb4 (i := 237) rfl rfl) (m_X1_plus l) (by decide) (by decide) rfl) (mm_calls_nil)))
/-! pairs by their difference -/
def prs1 (f s d x n : Nat) : Nat := sumN (fun y => ind (bitB s x && (bitB s y && Nat.beq (fsum f x (fneg f y)) d))) n
def prs2 (f s d n : Nat) : Nat := sumN (fun x => prs1 f s d x (fQ f)) n
theorem dif0_c : fevery (fun f => fall f (fun x => Nat.beq (fsum f x (fneg f x)) 0)) = true := by decide +kernel
theorem prs_eq {f s d : Nat} (hf : f < 15) (hd : d ≠ 0) : prs2 f s d (fQ f) = prsN f s d := by
  unfold prs2 prs1 prsN
  refine sumN_congr _ (fun x hx => sumN_congr _ (fun y hy => ?_))
  by_cases e : x = y
  · subst e
    rw [Nat.eq_of_beq_eq_true (fall_at (fevery_at dif0_c hf) hx), Nat.beq_refl, show Nat.beq 0 d = false from beq_f (fun z => hd z.symm)]
    simp
  · rw [show Nat.beq x y = false from beq_f e]
    rfl
theorem and_nat {a b : Nat} (ha : a < 2147483648) (hb : b < 2147483648) : mm_and (a : Int) (b : Int) = ((a &&& b : Nat) : Int) := by
  have hl : a &&& b < 2147483648 := Nat.lt_of_le_of_lt Nat.and_le_left ha
  unfold mm_and
  have e : Int32.ofInt (a : Int) &&& Int32.ofInt (b : Int) = Int32.ofInt ((a &&& b : Nat) : Int) := by
    apply Int32.toBitVec_inj.mp
    rw [Int32.toBitVec_and]
    simp only [Int32.toBitVec_ofInt, BitVec.ofInt_natCast]
    apply BitVec.eq_of_toNat_eq
    rw [BitVec.toNat_and]
    simp only [BitVec.toNat_ofNat]
    rw [Nat.mod_eq_of_lt (by omega), Nat.mod_eq_of_lt (by omega), Nat.mod_eq_of_lt (by omega)]
  rw [e, mm_ti (rng_nat hl)]
theorem and2_bit {s x y : Nat} : (s / 2 ^ x &&& s / 2 ^ y) % 2 = ind (bitB s x && bitB s y) := by
  have h := Nat.and_mod_two_pow (a := s / 2 ^ x) (b := s / 2 ^ y) (n := 1)
  rw [Nat.pow_one] at h
  rw [h]
  unfold bitB
  rcases Nat.mod_two_eq_zero_or_one (s / 2 ^ x) with e | e <;> rcases Nat.mod_two_eq_zero_or_one (s / 2 ^ y) with e2 | e2 <;> rw [e, e2] <;> rfl
def T_X0_evenDifferences : Tr := fun av h N _ => ∃ (w : CW) (c : CS) (f s : Nat), av = [mR 19, mI s] ∧ h = hC w c ∧ CF f c ∧ s < 2147483648 ∧ ∀ A : Int → Int, N (some (mI (if ∀ d, d < fQ f → 2 ≤ d → prsN f s d = prsN f s 1 then (prsN f s 1 : Int) else -1))) (hC w (kA c 22 A))
abbrev e_X0_evenDifferences : NE := (ftX0, [(52, (2, 0, 0, false, (1, 0), T_J7_fill_53178)), (55, (3, 0, 0, false, (0, 1), T_X1_minus))], ltX0, [], [], false, 1, (0, 0), [], [], [], true)
set_option maxHeartbeats 8000000 in
theorem s_X0_evenDifferences : mm_Spec e_X0_evenDifferences kX0_evenDifferences 4 T_X0_evenDifferences := by
  rintro N X K av h hK ⟨w, c, f, s, rfl, rfl, hF, hs, h2⟩
  have hb := fbase hF.1.1
  have hq : ∀ A : Int → Int, (kA c 22 A).1 3 = (fQ f : Int) := fun _ => hF.1.2.2.2
  -- the comparison
  have test : ∀ A : Int → Int, (∀ d : Nat, d < fQ f → A (d : Int) = (prs2 f s d (fQ f) : Nat)) → ∀ x : Nat, x ≤ fQ f → 2 ≤ x → ∀ o : Option MV, (∀ d, d < x → 2 ≤ d → prsN f s d = prsN f s 1) → K 79 [some (mR 19), some (mI s), some (mI x), o] [] (hC w (kA c 22 A)) 0 0 := by
    intro A hA
    have h2 := h2 A
    have e1 : A 1 = (prsN f s 1 : Nat) := by
      have := hA 1 (by omega)
      rw [prs_eq hF.1.1 (by omega)] at this
      exact this
    refine mm_for (fQ f) (fun hx o hd => ?_) (fun x hx ih hx2 o hd => ?_)
    · rw [if_pos hd, ← e1] at h2
      refine hK [] _ _ _ _ _ _ ?_
      conv => whnf
      rw [hq]
      refine And.intro (fun _ => ?_) (fun q => absurd q (by omega))
      refine And.intro (by omega) ?_
      exact h2
    · have ex : A (x : Int) = (prsN f s x : Nat) := by rw [hA x hx, prs_eq hF.1.1 (by omega)]
      refine hK [79] _ _ _ _ _ _ ?_
      conv => whnf
      rw [hq]
      refine And.intro (fun q => absurd q (by omega)) (fun _ => ?_)
      refine And.intro (by omega) ?_
      refine And.intro (by omega) ?_
      conv => whnf
      rw [show (kA c 22 A).2.1 22 (x : Int) = _ from ex, show (kA c 22 A).2.1 22 1 = _ from e1]
      refine And.intro (fun q => ?_) (fun q => ?_)
      · refine And.intro (rng_of (by omega) (by omega)) ?_
        refine ih (by omega) o (fun d hd1 hd2 => ?_)
        by_cases z : d = x
        · rw [z]; omega
        · exact hd d (by omega) hd2
      · rw [if_neg (fun z => q (by rw [z x hx hx2]))] at h2
        exact h2
  have rows : ∀ x : Nat, x ≤ fQ f → ∀ (A : Int → Int) (o : Option MV), (∀ d : Nat, d < fQ f → A (d : Int) = (prs2 f s d x : Nat)) → K 10 [some (mR 19), some (mI s), some (mI x), o] [] (hC w (kA c 22 A)) 0 0 := by
    refine mm_for (fQ f) (fun A o hA => ?_) (fun x hx ih A o hA => ?_)
    · refine hK [79] _ _ _ _ _ _ ?_
      conv => whnf
      rw [hq]
      refine And.intro (fun _ => ?_) (fun q => absurd q (by omega))
      exact test A hA 2 (by omega) (by omega) _ (fun d h1 h3 => absurd h1 (by omega))
    · have cols : ∀ y : Nat, y ≤ fQ f → ∀ A : Int → Int, (∀ d : Nat, d < fQ f → A (d : Int) = ((prs2 f s d x + prs1 f s d x y : Nat) : Int)) → K 23 [some (mR 19), some (mI s), some (mI x), some (mI y)] [] (hC w (kA c 22 A)) 0 0 := by
        refine mm_for (fQ f) (fun A hA => ?_) (fun y hy ihy A hA => ?_)
        · refine hK [10] _ _ _ _ _ _ ?_
          conv => whnf
          rw [hq]
          refine And.intro (fun _ => ?_) (fun q => absurd q (by omega))
          refine And.intro (rng_of (by omega) (by omega)) ?_
          exact ih A _ hA
        · have hdf := fsum_lt hF.1.1 hx (fneg_lt hF.1.1 hy)
          have st : ∀ d, prs1 f s d x (y + 1) = prs1 f s d x y + ind (bitB s x && (bitB s y && Nat.beq (fsum f x (fneg f y)) d)) := fun _ => rfl
          have hd1 := Nat.div_le_self s (2 ^ x)
          have hd2 := Nat.div_le_self s (2 ^ y)
          have hal : s / 2 ^ x &&& s / 2 ^ y ≤ s / 2 ^ x := Nat.and_le_left
          have hbd : prs2 f s (fsum f x (fneg f y)) x + prs1 f s (fsum f x (fneg f y)) x y ≤ 1000 := by
            have h1 : ∀ d x n, n ≤ 27 → prs1 f s d x n ≤ 27 := fun d x n hn => by
              have := sumN_le27 (g := fun y => ind (bitB s x && (bitB s y && Nat.beq (fsum f x (fneg f y)) d))) (M := 1) (fun x => ind_le _) hn
              unfold prs1
              omega
            have h3 := sumN_le27 (g := fun x' => prs1 f s (fsum f x (fneg f y)) x' (fQ f)) (M := 27) (fun x' => h1 _ _ _ hb.1) (show x ≤ 27 by omega)
            have h4 := h1 (fsum f x (fneg f y)) x y (by omega)
            unfold prs2
            omega
          refine hK [23] _ _ _ _ _ _ ?_
          conv => whnf
          rw [hq]
          refine And.intro (fun q => absurd q (by omega)) (fun _ => ?_)
          conv => whnf
          rw [shr_nat hs (by omega), shr_nat hs (by omega), and_nat (by omega) (by omega), and1_nat (by omega), and2_bit]
          refine And.intro (fun q => ?_) (fun q => ?_)
          · have q : (bitB s x && bitB s y) = false := by
              cases hz : (bitB s x && bitB s y) with
              | false => rfl
              | true => rw [hz] at q; exact absurd rfl q
            refine And.intro (rng_of (by omega) (by omega)) ?_
            refine ihy A (fun d hd => ?_)
            rw [hA d hd, st, ← Bool.and_assoc, q]
            rfl
          · have q : (bitB s x && bitB s y) = true := by
              cases hz : (bitB s x && bitB s y) with
              | true => rfl
              | false => rw [hz] at q; exact absurd q (by decide)
            refine ⟨w, kA c 22 A, f, x, y, rfl, rfl, hF.1, hF.2.1, hF.2.2.1, hx, hy, ?_⟩
            refine And.intro (by omega) ?_
            conv => whnf
            rw [show (kA c 22 A).2.1 22 ((fsum f x (fneg f y) : Nat) : Int) = _ from hA _ hdf]
            refine And.intro (rng_of (by omega) (by omega)) ?_
            refine And.intro (by omega) ?_
            refine And.intro (rng_of (by omega) (by omega)) ?_
            refine ihy (mm_upd A ((fsum f x (fneg f y) : Nat) : Int) (((prs2 f s (fsum f x (fneg f y)) x + prs1 f s (fsum f x (fneg f y)) x y : Nat) : Int) + 1)) (fun d hd => ?_)
            unfold mm_upd
            rw [st, ← Bool.and_assoc, q]
            by_cases e : d = fsum f x (fneg f y)
            · rw [if_pos (by rw [e]), ← e, Nat.beq_refl]
              rfl
            · rw [if_neg (by omega), hA d hd, show Nat.beq (fsum f x (fneg f y)) d = false from beq_f (fun z => e z.symm)]
              rfl
      refine hK [23] _ _ _ _ _ _ ?_
      conv => whnf
      rw [hq]
      refine And.intro (fun q => absurd q (by omega)) (fun _ => ?_)
      exact cols 0 (by omega) A (fun d hd => hA d hd)
  refine ⟨rfl, hK [10] _ _ _ _ _ _ ?_⟩
  refine ⟨w, c, 0, rfl, Or.inr (Or.inr (Or.inl ⟨rfl, fun b hb2 => ?_⟩))⟩
  exact rows 0 (by omega) b _ (fun d hd => by rw [hb2, if_pos (by omega)]; rfl)
theorem m_X0_evenDifferences (l : Launch) : mm_Met l yX0_evenDifferences cX0_evenDifferences 4 (some .int) 2 0 0 T_X0_evenDifferences := mm_met (E := e_X0_evenDifferences) (cd := kX0_evenDifferences) s_X0_evenDifferences (by decide) kX0_evenDifferences_ok (by decide +kernel) (by decide +kernel) (Or.inr (Or.inl ⟨rfl, rfl⟩)) rfl (mm_eok_X0 _) (mm_calls_cons (mm_cbs wi_J7_fill_53178 (tb5 (i := 133) rfl rfl) (m_J7_fill_53178 l) (by decide) (by decide) rfl) (mm_calls_cons (mm_cbv wi_X1_minus (tb5 (i := 134) rfl rfl) (m_X1_minus l) (by decide) (by decide) rfl) (mm_calls_nil)))
