/-! what the component counts: ways -/
def T_X0_begin : Tr := fun av h N _ => ∃ (w : CW) (c : CS), av = [mR 19] ∧ h = hC w c ∧ ∀ b : Int → Int64, (∀ v : Nat, v < 27 → b (v : Int) = Int64.ofInt (ind (Nat.beq v 0) : Nat)) → N none (hC w (kL c 20 b))
abbrev e_X0_begin : NE := (ftX0, [(28, (2, 0, 0, false, (1, 0), T_J7_fill_d0a16))], ltX0, [], [], false, 0, (0, 0), [], [], [], true)
theorem s_X0_begin : mm_Spec e_X0_begin kX0_begin 1 T_X0_begin := by
  rintro N X K av h hK ⟨w, ⟨cI, cA, cL, cR, sw⟩, rfl, rfl, h2⟩
  have fin : ∀ b : Int → Int64, (∀ i : Int, b i = if 0 ≤ i ∧ i < ((27 : Nat) : Int) then 0 else cL 20 i) → N none (hC w (kL (cI, cA, cL, cR, sw) 20 (mm_updL b 0 1))) := fun b hb => h2 (mm_updL b 0 1) (fun v hv => by
    unfold mm_updL
    cases v with
    | zero => exact if_pos rfl
    | succ v =>
      rw [if_neg (by omega), hb, if_pos (by omega)]
      rfl)
  cases sw with
  | false =>
    refine ⟨rfl, hK [] _ _ _ _ _ _ ?_⟩
    refine ⟨w, (cI, cA, cL, cR, false), 0, rfl, Or.inr (Or.inl ⟨rfl, fun b hb => ?_⟩)⟩
    refine And.intro (by omega) ?_
    exact fin b hb
  | true =>
    refine ⟨rfl, hK [] _ _ _ _ _ _ ?_⟩
    refine ⟨w, (cI, cA, cL, cR, true), 0, rfl, Or.inr (Or.inl ⟨rfl, fun b hb => ?_⟩)⟩
    refine And.intro (by omega) ?_
    exact fin b hb
theorem m_X0_begin (l : Launch) : mm_Met l yX0_begin cX0_begin 1 none 1 0 0 T_X0_begin := mm_met (E := e_X0_begin) (cd := kX0_begin) s_X0_begin (by decide) kX0_begin_ok (by decide +kernel) (by decide +kernel) (Or.inl ⟨rfl, rfl⟩) rfl (mm_eok_X0 _) (mm_calls_cons (mm_cbs wi_J7_fill_d0a16 (tb4 (i := 230) rfl rfl) (m_J7_fill_d0a16 l) (by decide) (by decide) rfl) (mm_calls_nil))
def jW1 (f p : Nat) (W : Nat → Nat) (v n : Nat) : Nat := sumN (fun s => match Nat.beq (fsum f s p) v with | true => W s | false => 0) n
def jW (f a d : Nat) (W : Nat → Nat) (v n : Nat) : Nat := sumN (fun x => jW1 f (fprd f a (pw f x d)) W v (fQ f)) n
def T_X0_join : Tr := fun av h N _ => ∃ (w : CW) (c : CS) (f a d : Nat) (W : Nat → Nat), av = [mR 19, mI a, mI d] ∧ h = hC w c ∧ CF f c ∧ a < fQ f ∧ 1 ≤ d ∧ d ≤ 1000 ∧ (∀ v : Nat, v < fQ f → c.2.2.1 20 (v : Int) = Int64.ofInt (W v : Nat)) ∧ ∀ b b2 : Int → Int64, (∀ v : Nat, v < fQ f → b (v : Int) = Int64.ofInt (jW f a d W v (fQ f) : Nat)) → N none (hC w (kS (kL (kL c 20 b) 21 b2) (!c.2.2.2.2)))
abbrev e_X0_join : NE := (ftX0, [(28, (2, 0, 0, false, (1, 0), T_J7_fill_d0a16)), (38, (3, 0, 0, false, (0, 1), T_X1_raised)), (42, (3, 0, 0, false, (0, 1), T_X1_times)), (45, (3, 0, 0, false, (0, 1), T_X1_plus))], ltX0, [], [], false, 0, (0, 0), [], [], [], true)
theorem add_of (a b : Nat) : Int64.ofInt (a : Int) + Int64.ofInt (b : Int) = Int64.ofInt ((a + b : Nat) : Int) := by rw [← Int64.ofInt_add]; rfl
set_option maxHeartbeats 8000000 in
theorem s_X0_join : mm_Spec e_X0_join kX0_join 6 T_X0_join := by
  rintro N X K av h hK ⟨w, ⟨cI, cA, cL, cR, sw⟩, f, a, d, W, rfl, rfl, hF, ha, hd1, hd, hW, h2⟩
  have hb := fbase hF.1.1
  have hW : ∀ v : Nat, v < fQ f → cL 20 (v : Int) = Int64.ofInt (W v : Nat) := hW
  cases sw with
  | false =>
    have hq : ∀ b : Int → Int64, (kL (cI, cA, cL, cR, false) 21 b).1 3 = (fQ f : Int) := fun _ => hF.1.2.2.2
    have rows : ∀ x : Nat, x ≤ fQ f → ∀ (b : Int → Int64) (o4 o5 : Option MV), (∀ v : Nat, v < fQ f → b (v : Int) = Int64.ofInt (jW f a d W v x : Nat)) → K 10 [some (mR 19), some (mI a), some (mI d), some (mI x), o4, o5] [] (hC w (kL (cI, cA, cL, cR, false) 21 b)) 0 0 := by
      refine mm_for (fQ f) (fun b o4 o5 hB => ?_) (fun x hx ih b o4 o5 hB => ?_)
      · refine hK [] _ _ _ _ _ _ ?_
        conv => whnf
        rw [hq]
        refine And.intro (fun _ => ?_) (fun q => absurd q (by omega))
        exact h2 b (cL 20) hB
      · have hpw := pw_lt hF.1.1 hx d
        have hpr := fprd_lt hF.1.1 ha hpw
        have cols : ∀ s : Nat, s ≤ fQ f → ∀ b : Int → Int64, (∀ v : Nat, v < fQ f → b (v : Int) = Int64.ofInt ((jW f a d W v x + jW1 f (fprd f a (pw f x d)) W v s : Nat) : Int)) → K 43 [some (mR 19), some (mI a), some (mI d), some (mI x), some (mI (fprd f a (pw f x d) : Nat)), some (mI s)] [] (hC w (kL (cI, cA, cL, cR, false) 21 b)) 0 0 := by
          refine mm_for (fQ f) (fun b hB => ?_) (fun s hs ihs b hB => ?_)
          · refine hK [10] _ _ _ _ _ _ ?_
            conv => whnf
            rw [hq]
            refine And.intro (fun _ => ?_) (fun q => absurd q (by omega))
            refine And.intro (rng_of (by omega) (by omega)) ?_
            exact ih b _ _ hB
          · have hsm := fsum_lt hF.1.1 hs hpr
            refine hK [43] _ _ _ _ _ _ ?_
            conv => whnf
            rw [hq]
            refine And.intro (fun q => absurd q (by omega)) (fun _ => ?_)
            refine ⟨w, kL (cI, cA, cL, cR, false) 21 b, f, s, _, rfl, rfl, hF.1, hF.2.1, hs, hpr, ?_⟩
            refine And.intro (by omega) ?_
            refine And.intro (by omega) ?_
            refine And.intro (by omega) ?_
            refine And.intro (rng_of (by omega) (by omega)) ?_
            refine ihs (mm_updL b ((fsum f s (fprd f a (pw f x d)) : Nat) : Int) (b ((fsum f s (fprd f a (pw f x d)) : Nat) : Int) + cL 20 (s : Int))) (fun v hv => ?_)
            have st : jW1 f (fprd f a (pw f x d)) W v (s + 1) = jW1 f (fprd f a (pw f x d)) W v s + (match Nat.beq (fsum f s (fprd f a (pw f x d))) v with | true => W s | false => 0) := rfl
            unfold mm_updL
            by_cases e : v = fsum f s (fprd f a (pw f x d))
            · rw [if_pos (by rw [e]), ← e, hB v hv, show cL 20 (s : Int) = Int64.ofInt (W s : Nat) from hW s hs, st, ← e, Nat.beq_refl, add_of]
              exact congrArg (fun z : Nat => Int64.ofInt (z : Int)) (Nat.add_assoc _ _ _)
            · rw [if_neg (by omega), hB v hv, st, show Nat.beq (fsum f s (fprd f a (pw f x d))) v = false from beq_f (fun z => e z.symm)]
              rfl
        refine hK [43] _ _ _ _ _ _ ?_
        conv => whnf
        rw [hq]
        refine And.intro (fun q => absurd q (by omega)) (fun _ => ?_)
        refine ⟨w, kL (cI, cA, cL, cR, false) 21 b, f, x, d, rfl, rfl, hF.1, hF.2.2.2.2.1, hx, hd1, hd, ?_⟩
        refine ⟨w, kL (cI, cA, cL, cR, false) 21 b, f, a, _, rfl, rfl, hF.1, hF.2.2.2.1, ha, hpw, ?_⟩
        exact cols 0 (by omega) b (fun v hv => hB v hv)
    refine ⟨rfl, hK [10] _ _ _ _ _ _ ?_⟩
    refine ⟨w, (cI, cA, cL, cR, false), 0, rfl, Or.inr (Or.inr ⟨rfl, fun b hb => ?_⟩)⟩
    exact rows 0 (by omega) b _ _ (fun v hv => by rw [hb, if_pos (by omega)]; rfl)
  | true =>
    have hq : ∀ b : Int → Int64, (kL (cI, cA, cL, cR, true) 21 b).1 3 = (fQ f : Int) := fun _ => hF.1.2.2.2
    have rows : ∀ x : Nat, x ≤ fQ f → ∀ (b : Int → Int64) (o4 o5 : Option MV), (∀ v : Nat, v < fQ f → b (v : Int) = Int64.ofInt (jW f a d W v x : Nat)) → K 10 [some (mR 19), some (mI a), some (mI d), some (mI x), o4, o5] [] (hC w (kL (cI, cA, cL, cR, true) 21 b)) 0 0 := by
      refine mm_for (fQ f) (fun b o4 o5 hB => ?_) (fun x hx ih b o4 o5 hB => ?_)
      · refine hK [] _ _ _ _ _ _ ?_
        conv => whnf
        rw [hq]
        refine And.intro (fun _ => ?_) (fun q => absurd q (by omega))
        exact h2 b (cL 20) hB
      · have hpw := pw_lt hF.1.1 hx d
        have hpr := fprd_lt hF.1.1 ha hpw
        have cols : ∀ s : Nat, s ≤ fQ f → ∀ b : Int → Int64, (∀ v : Nat, v < fQ f → b (v : Int) = Int64.ofInt ((jW f a d W v x + jW1 f (fprd f a (pw f x d)) W v s : Nat) : Int)) → K 43 [some (mR 19), some (mI a), some (mI d), some (mI x), some (mI (fprd f a (pw f x d) : Nat)), some (mI s)] [] (hC w (kL (cI, cA, cL, cR, true) 21 b)) 0 0 := by
          refine mm_for (fQ f) (fun b hB => ?_) (fun s hs ihs b hB => ?_)
          · refine hK [10] _ _ _ _ _ _ ?_
            conv => whnf
            rw [hq]
            refine And.intro (fun _ => ?_) (fun q => absurd q (by omega))
            refine And.intro (rng_of (by omega) (by omega)) ?_
            exact ih b _ _ hB
          · have hsm := fsum_lt hF.1.1 hs hpr
            refine hK [43] _ _ _ _ _ _ ?_
            conv => whnf
            rw [hq]
            refine And.intro (fun q => absurd q (by omega)) (fun _ => ?_)
            refine ⟨w, kL (cI, cA, cL, cR, true) 21 b, f, s, _, rfl, rfl, hF.1, hF.2.1, hs, hpr, ?_⟩
            refine And.intro (by omega) ?_
            refine And.intro (by omega) ?_
            refine And.intro (by omega) ?_
            refine And.intro (rng_of (by omega) (by omega)) ?_
            refine ihs (mm_updL b ((fsum f s (fprd f a (pw f x d)) : Nat) : Int) (b ((fsum f s (fprd f a (pw f x d)) : Nat) : Int) + cL 20 (s : Int))) (fun v hv => ?_)
            have st : jW1 f (fprd f a (pw f x d)) W v (s + 1) = jW1 f (fprd f a (pw f x d)) W v s + (match Nat.beq (fsum f s (fprd f a (pw f x d))) v with | true => W s | false => 0) := rfl
            unfold mm_updL
            by_cases e : v = fsum f s (fprd f a (pw f x d))
            · rw [if_pos (by rw [e]), ← e, hB v hv, show cL 20 (s : Int) = Int64.ofInt (W s : Nat) from hW s hs, st, ← e, Nat.beq_refl, add_of]
              exact congrArg (fun z : Nat => Int64.ofInt (z : Int)) (Nat.add_assoc _ _ _)
            · rw [if_neg (by omega), hB v hv, st, show Nat.beq (fsum f s (fprd f a (pw f x d))) v = false from beq_f (fun z => e z.symm)]
              rfl
        refine hK [43] _ _ _ _ _ _ ?_
        conv => whnf
        rw [hq]
        refine And.intro (fun q => absurd q (by omega)) (fun _ => ?_)
        refine ⟨w, kL (cI, cA, cL, cR, true) 21 b, f, x, d, rfl, rfl, hF.1, hF.2.2.2.2.1, hx, hd1, hd, ?_⟩
        refine ⟨w, kL (cI, cA, cL, cR, true) 21 b, f, a, _, rfl, rfl, hF.1, hF.2.2.2.1, ha, hpw, ?_⟩
        exact cols 0 (by omega) b (fun v hv => hB v hv)
    refine ⟨rfl, hK [10] _ _ _ _ _ _ ?_⟩
    refine ⟨w, (cI, cA, cL, cR, true), 0, rfl, Or.inr (Or.inr ⟨rfl, fun b hb => ?_⟩)⟩
    exact rows 0 (by omega) b _ _ (fun v hv => by rw [hb, if_pos (by omega)]; rfl)
theorem m_X0_join (l : Launch) : mm_Met l yX0_join cX0_join 6 none 1 0 0 T_X0_join := mm_met (E := e_X0_join) (cd := kX0_join) s_X0_join (by decide) kX0_join_ok (by decide +kernel) (by decide +kernel) (Or.inl ⟨rfl, rfl⟩) rfl (mm_eok_X0 _) (mm_calls_cons (mm_cbs wi_J7_fill_d0a16 (tb4 (i := 230) rfl rfl) (m_J7_fill_d0a16 l) (by decide) (by decide) rfl) (mm_calls_cons (mm_cbv wi_X1_raised (tb4 (i := 235) rfl rfl) (m_X1_raised l) (by decide) (by decide) rfl) (mm_calls_cons (mm_cbv wi_X1_times (tb4 (i := 236) rfl rfl) (m_X1_times l) (by decide) (by decide) rfl) (mm_calls_cons (mm_cbv wi_X1_plus (tb4 (i := 237) rfl rfl) (m_X1_plus l) (by decide) (by decide) rfl) (mm_calls_nil)))))
def T_X0_waysTo : Tr := fun av h N _ => ∃ (w : CW) (c : CS) (v n : Nat), av = [mR 19, mI v] ∧ h = hC w c ∧ v < 27 ∧ c.2.2.1 20 (v : Int) = Int64.ofInt (n : Nat) ∧ n < 2147483648 ∧ N (some (mI n)) h
abbrev e_X0_waysTo : NE := (ftX0, [], ltX0, [], [], false, 1, (0, 0), [], [], [], true)
theorem s_X0_waysTo : mm_Spec e_X0_waysTo kX0_waysTo 2 T_X0_waysTo := by
  rintro N X K av h hK ⟨w, ⟨cI, cA, cL, cR, sw⟩, v, n, rfl, rfl, hv, hn, hn2, h2⟩
  have hn : cL 20 (v : Int) = Int64.ofInt (n : Nat) := hn
  have e : (cL 20 (v : Int)).toInt = (n : Int) := by rw [hn]; exact l_of (rng_nat hn2)
  rw [← e] at h2
  cases sw with
  | false =>
    refine ⟨rfl, hK [] _ _ _ _ _ _ ?_⟩
    refine And.intro (by omega) ?_
    refine And.intro (by show mm_rng (cL 20 (v : Int)).toInt; rw [e]; exact rng_nat hn2) ?_
    exact h2
  | true =>
    refine ⟨rfl, hK [] _ _ _ _ _ _ ?_⟩
    refine And.intro (by omega) ?_
    refine And.intro (by show mm_rng (cL 20 (v : Int)).toInt; rw [e]; exact rng_nat hn2) ?_
    exact h2
theorem m_X0_waysTo (l : Launch) : mm_Met l yX0_waysTo cX0_waysTo 2 (some .int) 0 0 0 T_X0_waysTo := mm_met (E := e_X0_waysTo) (cd := kX0_waysTo) s_X0_waysTo (by decide) kX0_waysTo_ok (by decide +kernel) (by decide +kernel) (Or.inr (Or.inl ⟨rfl, rfl⟩)) rfl (mm_eok_X0 _) (mm_calls_nil)
