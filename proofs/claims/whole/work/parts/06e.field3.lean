/-! the component's field: the generator, traces, all of it; least polynomials -/
def ogN (f g : Nat) : Nat := fst0 (fun n => Nat.beq (pw f g (n + 1)) 1) (fQ f - 1) 0
theorem gen2_c : fevery (fun f => fall f (fun g => Nat.beq g 0 || (Nat.blt (ogN f g) (fQ f - 1) && Nat.beq (pw f g (ogN f g + 1)) 1)) && ((List.range (fG f)).all (fun g => Nat.beq g 0 || (!(Nat.beq (ogN f g) (fQ f - 2)) && Nat.blt g (fQ f - 1))) && (Nat.beq (ogN f (fG f)) (fQ f - 2) && (Nat.blt 0 (fG f) && (Nat.blt (fG f) (fQ f) && ((List.range (fQ f - 1)).all (fun i => Nat.beq (pw f (fG f) i) (fpow f i) && Nat.beq (flog f (fpow f i)) i) && fall f (fun x => Nat.beq x 0 || Nat.beq (fpow f (flog f x)) x))))))) = true := by decide +kernel
theorem gen2_at {f : Nat} (hf : f < 15) : (∀ g, 1 ≤ g → g < fQ f → ogN f g < fQ f - 1 ∧ pw f g (ogN f g + 1) = 1) ∧ (∀ g, 1 ≤ g → g < fG f → ogN f g ≠ fQ f - 2 ∧ g < fQ f - 1) ∧ ogN f (fG f) = fQ f - 2 ∧ 0 < fG f ∧ fG f < fQ f ∧ (∀ i, i < fQ f - 1 → pw f (fG f) i = fpow f i ∧ flog f (fpow f i) = i) ∧ ∀ x, 1 ≤ x → x < fQ f → fpow f (flog f x) = x := by
  have h := fevery_at gen2_c hf
  simp only [Bool.and_eq_true] at h
  obtain ⟨h1, h2, h3, h4, h5, h6, h7⟩ := h
  refine ⟨fun g g1 g2 => ?_, fun g g1 g2 => ?_, Nat.eq_of_beq_eq_true h3, mm_blt_t h4, mm_blt_t h5, fun i hi => ?_, fun x x1 x2 => ?_⟩
  · have q := fall_at h1 g2
    rw [Bool.or_eq_true, Bool.and_eq_true] at q
    rcases q with q | q
    · exact absurd (Nat.eq_of_beq_eq_true q) (by omega)
    · exact ⟨mm_blt_t q.1, Nat.eq_of_beq_eq_true q.2⟩
  · have q := List.all_eq_true.mp h2 g (List.mem_range.mpr g2)
    rw [Bool.or_eq_true, Bool.and_eq_true, Bool.not_eq_true'] at q
    rcases q with q | q
    · exact absurd (Nat.eq_of_beq_eq_true q) (by omega)
    · refine ⟨fun z => ?_, mm_blt_t q.2⟩
      rw [z, Nat.beq_refl] at q
      exact absurd q.1 (by decide)
  · have q := List.all_eq_true.mp h6 i (List.mem_range.mpr hi)
    rw [Bool.and_eq_true] at q
    exact ⟨Nat.eq_of_beq_eq_true q.1, Nat.eq_of_beq_eq_true q.2⟩
  · have q := fall_at h7 x2
    rw [Bool.or_eq_true] at q
    rcases q with q | q
    · exact absurd (Nat.eq_of_beq_eq_true q) (by omega)
    · exact Nat.eq_of_beq_eq_true q
theorem ogN_lt {f g n : Nat} (h : n < ogN f g) : pw f g (n + 1) ≠ 1 := by
  intro z
  have := (fst0_lt (b := fun n => Nat.beq (pw f g (n + 1)) 1) (fQ f - 1) 0).2 n (Nat.zero_le _) h
  rw [z] at this
  exact absurd this (by decide)
def T_X1_walkPowers : Tr := fun av h N _ => ∃ (w : CW) (c : CS) (f g : Nat), av = [mR 1] ∧ h = hC w c ∧ CF0 f c ∧ CFp f c ∧ c.1 5 = (g : Nat) ∧ 1 ≤ g ∧ g < fQ f ∧ ∀ A B : Int → Int, (g = fG f → CFw f (kA (kA c 6 A) 7 B)) → N (some (mI (bi (ogN f g = fQ f - 2)))) (hC w (kA (kA c 6 A) 7 B))
abbrev e_X1_walkPowers : NE := (ftX1, [(72, (3, 0, 0, false, (0, 1), T_X1_times))], ltX1, [], [], false, 2, (0, 0), [], [], [], true)
set_option maxHeartbeats 4000000 in
theorem s_X1_walkPowers : mm_Spec e_X1_walkPowers kX1_walkPowers 3 T_X1_walkPowers := by
  rintro N X K av h hK ⟨w, c, f, g, rfl, rfl, h0, hp, hg, hg1, hgq, h2⟩
  have hb := fbase h0.1
  obtain ⟨e1, e2, e3, e4, e5, e6, e7⟩ := gen2_at h0.1
  obtain ⟨o1, o2⟩ := e1 g hg1 hgq
  have hq : ∀ A B : Int → Int, (kA (kA c 6 A) 7 B).1 3 = (fQ f : Int) := fun _ _ => h0.2.2.2
  have hgg : ∀ A B : Int → Int, (kA (kA c 6 A) 7 B).1 5 = (g : Int) := fun _ _ => hg
  have loop : ∀ n : Nat, n ≤ ogN f g → ∀ A B : Int → Int, (∀ i : Nat, i < n → A (i : Int) = (pw f g i : Nat)) → (g = fG f → ∀ i : Nat, i < n → B ((pw f g i : Nat) : Int) = (i : Nat)) → K 4 [some (mR 1), some (mI (pw f g n : Nat)), some (mI n)] [] (hC w (kA (kA c 6 A) 7 B)) 0 0 := by
    have step : ∀ n : Nat, n ≤ ogN f g → ∀ A B : Int → Int, (∀ i : Nat, i < n → A (i : Int) = (pw f g i : Nat)) → (g = fG f → ∀ i : Nat, i < n → B ((pw f g i : Nat) : Int) = (i : Nat)) → (∀ i : Nat, i < n + 1 → mm_upd A (n : Int) (pw f g n : Nat) (i : Int) = (pw f g i : Nat)) ∧ (g = fG f → ∀ i : Nat, i < n + 1 → mm_upd B ((pw f g n : Nat) : Int) (n : Int) ((pw f g i : Nat) : Int) = (i : Nat)) := by
      intro n hn A B hA hB
      refine ⟨fun i hi => ?_, fun eg i hi => ?_⟩
      · unfold mm_upd
        by_cases z : i = n
        · rw [if_pos (by omega), z]
        · rw [if_neg (by omega)]
          exact hA i (by omega)
      · unfold mm_upd
        by_cases z : i = n
        · rw [z, if_pos rfl]
        · rw [if_neg]
          · exact hB eg i (by omega)
          · intro y
            have y : pw f g i = pw f g n := by omega
            have hnq : n < fQ f - 1 := by omega
            rw [eg, (e6 i (by omega)).1, (e6 n hnq).1] at y
            have y2 := congrArg (flog f) y
            rw [(e6 i (by omega)).2, (e6 n hnq).2] at y2
            exact z y2
    refine mm_for (ogN f g) (fun A B hA hB => ?_) (fun n hn ih A B hA hB => ?_)
    · obtain ⟨s1, s2⟩ := step _ (Nat.le_refl _) A B hA hB
      have hpl := pw_lt h0.1 hgq (ogN f g)
      have h3 := h2 (mm_upd A (ogN f g : Int) (pw f g (ogN f g) : Nat)) (mm_upd B ((pw f g (ogN f g) : Nat) : Int) (ogN f g : Int)) (fun eg => by
        have en : ogN f g = fQ f - 2 := by rw [eg]; exact e3
        refine ⟨fun i hi => ?_, fun x x1 x2 => ?_⟩
        · have h4 := s1 i (by omega)
          rw [show pw f g i = fpow f i by rw [eg]; exact (e6 i hi).1] at h4
          exact h4
        · have hl := flog_lt h0.1 x2
          have := s2 eg (flog f x) (by omega)
          rw [show (pw f g (flog f x)) = x by rw [eg, (e6 _ hl).1, e7 x x1 x2]] at this
          exact this)
      refine hK [4] _ _ _ _ _ _ ?_
      conv => whnf
      rw [hq]
      refine And.intro (rng_of (by omega) (by omega)) ?_
      refine And.intro (fun q => absurd q (by omega)) (fun _ => ?_)
      refine And.intro (by omega) ?_
      refine And.intro (by omega) ?_
      refine ⟨w, kA (kA c 6 (mm_upd A (ogN f g : Int) (pw f g (ogN f g) : Nat))) 7 (mm_upd B ((pw f g (ogN f g) : Nat) : Int) (ogN f g : Int)), f, pw f g (ogN f g), g, by show [mR 1, mI _, mI (c.1 5)] = _; rw [hg], rfl, h0, hp, hpl, hgq, ?_⟩
      rw [show fprd f (pw f g (ogN f g)) g = 1 from o2]
      refine And.intro (fun q => absurd q (by omega)) (fun _ => ?_)
      conv => whnf
      rw [hq]
      refine And.intro (rng_of (by omega) (by omega)) ?_
      refine And.intro (fun q => ?_) (fun q => ?_)
      · rw [bi_f (by omega)] at h3
        exact And.intro (Or.inl rfl) h3
      · rw [bi_t (by omega)] at h3
        exact And.intro (Or.inr rfl) h3
    · obtain ⟨s1, s2⟩ := step n (by omega) A B hA hB
      have hpl := pw_lt h0.1 hgq n
      have hne := ogN_lt (f := f) (g := g) hn
      refine hK [4] _ _ _ _ _ _ ?_
      conv => whnf
      rw [hq]
      refine And.intro (rng_of (by omega) (by omega)) ?_
      refine And.intro (fun q => absurd q (by omega)) (fun _ => ?_)
      refine And.intro (by omega) ?_
      refine And.intro (by omega) ?_
      refine ⟨w, kA (kA c 6 (mm_upd A (n : Int) (pw f g n : Nat))) 7 (mm_upd B ((pw f g n : Nat) : Int) (n : Int)), f, pw f g n, g, by show [mR 1, mI _, mI (c.1 5)] = _; rw [hg], rfl, h0, hp, hpl, hgq, ?_⟩
      rw [show fprd f (pw f g n) g = pw f g (n + 1) from rfl]
      refine And.intro (fun _ => ?_) (fun q => absurd q (by omega))
      refine And.intro (rng_of (by omega) (by omega)) ?_
      exact ih _ _ s1 s2
  refine ⟨rfl, hK [4] _ _ _ _ _ _ ?_⟩
  exact loop 0 (by omega) (c.2.1 6) (c.2.1 7) (fun i hi => absurd hi (by omega)) (fun _ i hi => absurd hi (by omega))
theorem m_X1_walkPowers (l : Launch) : mm_Met l yX1_walkPowers cX1_walkPowers 3 (some .boolean) 1 0 0 T_X1_walkPowers := mm_met (E := e_X1_walkPowers) (cd := kX1_walkPowers) s_X1_walkPowers (by decide) kX1_walkPowers_ok (by decide +kernel) (by decide +kernel) (Or.inr (Or.inr (Or.inl ⟨rfl, rfl⟩))) rfl (mm_eok_X1 _) (mm_calls_cons (mm_cbv wi_X1_times (tb2 (i := 106) rfl rfl) (m_X1_times l) (by decide) (by decide) rfl) (mm_calls_nil))
def T_X1_findGenerator : Tr := fun av h N _ => ∃ (w : CW) (c : CS) (f : Nat), av = [mR 1] ∧ h = hC w c ∧ CF0 f c ∧ CFp f c ∧ ∀ A B : Int → Int, CFw f (kA (kA (kI c 5 (fG f : Nat)) 6 A) 7 B) → N none (hC w (kA (kA (kI c 5 (fG f : Nat)) 6 A) 7 B))
abbrev e_X1_findGenerator : NE := (ftX1, [(106, (1, 0, 0, false, (0, 1), T_X1_walkPowers))], ltX1, [], [], false, 0, (0, 0), [], [], [], true)
set_option maxHeartbeats 4000000 in
theorem s_X1_findGenerator : mm_Spec e_X1_findGenerator kX1_findGenerator 1 T_X1_findGenerator := by
  rintro N X K av h hK ⟨w, c, f, rfl, rfl, h0, hp, h2⟩
  have hb := fbase h0.1
  obtain ⟨e1, e2, e3, e4, e5, e6, e7⟩ := gen2_at h0.1
  have loop : ∀ g : Nat, g ≤ fG f → 1 ≤ g → ∀ (A B : Int → Int) (v : Int), v + 1 = (g : Int) → K 5 [some (mR 1)] [] (hC w (kA (kA (kI c 5 v) 6 A) 7 B)) 0 0 := by
    refine mm_for (fG f) (fun hg1 A B v hv => ?_) (fun g hg ih hg1 A B v hv => ?_)
    · refine hK [5] _ _ _ _ _ _ ?_
      conv => whnf
      rw [show (kA (kA (kI c 5 v) 6 A) 7 B).1 5 = v from rfl, hv]
      refine And.intro (rng_of (by omega) (by omega)) ?_
      refine ⟨w, kA (kA (kI c 5 (fG f : Nat)) 6 A) 7 B, f, fG f, rfl, rfl, h0, hp, rfl, hg1, e5, fun A2 B2 hw => ?_⟩
      rw [bi_t e3]
      refine And.intro (fun _ => ?_) (fun q => absurd q (by omega))
      exact h2 A2 B2 (hw rfl)
    · obtain ⟨g1, g2⟩ := e2 g hg1 hg
      refine hK [5] _ _ _ _ _ _ ?_
      conv => whnf
      rw [show (kA (kA (kI c 5 v) 6 A) 7 B).1 5 = v from rfl, hv]
      refine And.intro (rng_of (by omega) (by omega)) ?_
      refine ⟨w, kA (kA (kI c 5 (g : Nat)) 6 A) 7 B, f, g, rfl, rfl, h0, hp, rfl, hg1, by omega, fun A2 B2 hw => ?_⟩
      rw [bi_f g1]
      refine And.intro (fun q => absurd q (by omega)) (fun _ => ?_)
      conv => whnf
      rw [show (kA (kA (kA (kA (kI c 5 (g : Nat)) 6 A) 7 B) 6 A2) 7 B2).1 3 = (fQ f : Int) from h0.2.2.2]
      refine And.intro (rng_of (by omega) (by omega)) ?_
      have e4' : (kA (kA (kA (kA (kI c 5 (g : Nat)) 6 A) 7 B) 6 A2) 7 B2).1 5 = (g : Int) := rfl
      refine And.intro (fun _ => ?_) (fun q => absurd q (by omega))
      exact ih (by omega) A2 B2 (g : Int) (by omega)
  refine ⟨rfl, hK [5] _ _ _ _ _ _ ?_⟩
  exact loop 1 (by omega) (by omega) (c.2.1 6) (c.2.1 7) 0 rfl
theorem m_X1_findGenerator (l : Launch) : mm_Met l yX1_findGenerator cX1_findGenerator 1 none 2 0 0 T_X1_findGenerator := mm_met (E := e_X1_findGenerator) (cd := kX1_findGenerator) s_X1_findGenerator (by decide) kX1_findGenerator_ok (by decide +kernel) (by decide +kernel) (Or.inl ⟨rfl, rfl⟩) rfl (mm_eok_X1 _) (mm_calls_cons (mm_cbv wi_X1_walkPowers (tb2 (i := 102) rfl rfl) (m_X1_walkPowers l) (by decide) (by decide) rfl) (mm_calls_nil))
def T_X1_fillTraces : Tr := fun av h N _ => ∃ (w : CW) (c : CS) (f : Nat), av = [mR 1] ∧ h = hC w c ∧ CF0 f c ∧ CFs f c ∧ CFw f c ∧ ∀ A : Int → Int, CFt f (kA c 8 A) → N none (hC w (kA c 8 A))
abbrev e_X1_fillTraces : NE := (ftX1, [(68, (3, 0, 0, false, (0, 1), T_X1_plus)), (75, (3, 0, 0, false, (0, 1), T_X1_raised))], ltX1, [], [], false, 0, (0, 0), [], [], [], true)
set_option maxHeartbeats 4000000 in
theorem s_X1_fillTraces : mm_Spec e_X1_fillTraces kX1_fillTraces 5 T_X1_fillTraces := by
  rintro N X K av h hK ⟨w, c, f, rfl, rfl, h0, hs, hw, h2⟩
  have hb := fbase h0.1
  have hq : ∀ A : Int → Int, (kA c 8 A).1 3 = (fQ f : Int) := fun _ => h0.2.2.2
  have hk : ∀ A : Int → Int, (kA c 8 A).1 2 = (fK f : Int) := fun _ => h0.2.2.1
  have rows : ∀ x : Nat, x ≤ fQ f → ∀ (A : Int → Int) (o1 o2 o3 : Option MV), (∀ u : Nat, u < x → A (u : Int) = (ftr f u : Nat)) → K 2 [some (mR 1), some (mI x), o1, o2, o3] [] (hC w (kA c 8 A)) 0 0 := by
    refine mm_for (fQ f) (fun A o1 o2 o3 hA => ?_) (fun x hx ih A o1 o2 o3 hA => ?_)
    · refine hK [] _ _ _ _ _ _ ?_
      conv => whnf
      rw [hq]
      refine And.intro (fun _ => ?_) (fun q => absurd q (by omega))
      exact h2 A hA
    · have inner : ∀ (n v a i : Nat), i + n = fK f → v < fQ f → a < fQ f → rtr f n v a = ftr f x → K 17 [some (mR 1), some (mI x), some (mI a), some (mI v), some (mI i)] [] (hC w (kA c 8 A)) 0 0 := by
        intro n
        induction n with
        | zero =>
          intro v a i hi hv ha he
          have he : a = ftr f x := he
          refine hK [2] _ _ _ _ _ _ ?_
          conv => whnf
          rw [hk]
          refine And.intro (fun _ => ?_) (fun q => absurd q (by omega))
          refine And.intro (by omega) ?_
          refine And.intro (rng_of (by omega) (by omega)) ?_
          refine ih (mm_upd A (x : Int) (a : Int)) _ _ _ (fun u hu => ?_)
          unfold mm_upd
          by_cases e : u = x
          · rw [if_pos (by omega), e, he]
          · rw [if_neg (by omega)]
            exact hA u (by omega)
        | succ n ihn =>
          intro v a i hi hv ha he
          refine hK [17] _ _ _ _ _ _ ?_
          conv => whnf
          rw [hk]
          refine And.intro (fun q => absurd q (by omega)) (fun _ => ?_)
          refine ⟨w, kA c 8 A, f, a, v, rfl, rfl, h0, hs, ha, hv, ?_⟩
          refine ⟨w, kA c 8 A, f, v, fP f, by show [mR 1, mI (v : Int), mI (c.1 1)] = _; rw [h0.2.1], rfl, h0, hw, hv, by omega, by omega, ?_⟩
          refine And.intro (rng_of (by omega) (by omega)) ?_
          exact ihn _ _ (i + 1) (by omega) (pw_lt h0.1 hv _) (fsum_lt h0.1 ha hv) he
      refine hK [17] _ _ _ _ _ _ ?_
      conv => whnf
      rw [hq]
      refine And.intro (fun q => absurd q (by omega)) (fun _ => ?_)
      exact inner (fK f) x 0 0 (by omega) hx (by omega) (rtr_at h0.1 hx)
  refine ⟨rfl, hK [2] _ _ _ _ _ _ ?_⟩
  exact rows 0 (by omega) (c.2.1 8) _ _ _ (fun u z => absurd z (by omega))
theorem m_X1_fillTraces (l : Launch) : mm_Met l yX1_fillTraces cX1_fillTraces 5 none 1 0 0 T_X1_fillTraces := mm_met (E := e_X1_fillTraces) (cd := kX1_fillTraces) s_X1_fillTraces (by decide) kX1_fillTraces_ok (by decide +kernel) (by decide +kernel) (Or.inl ⟨rfl, rfl⟩) rfl (mm_eok_X1 _) (mm_calls_cons (mm_cbv wi_X1_plus (tb2 (i := 82) rfl rfl) (m_X1_plus l) (by decide) (by decide) rfl) (mm_calls_cons (mm_cbv wi_X1_raised (tb2 (i := 114) rfl rfl) (m_X1_raised l) (by decide) (by decide) rfl) (mm_calls_nil)))
def T_X1_become : Tr := fun av h N _ => ∃ (w : CW) (c : CS) (f : Nat), av = [mR 1, mI (fP f : Nat), mI (fK f : Nat), mI (fQ f : Nat)] ∧ h = hC w c ∧ f < 15 ∧ ∀ c' : CS, FC [1, 2, 3, 4, 5] [2, 3, 4, 5, 6, 7, 8] [] c c' → CF f c' → c'.1 4 = (fM f : Nat) → c'.1 5 = (fG f : Nat) → N none (hC w c')
abbrev e_X1_become : NE := (ftX1, [(49, (1, 0, 0, false, (0, 1), T_X1_fillSums)), (52, (1, 0, 0, false, (0, 1), T_X1_findModulus)), (55, (1, 0, 0, false, (0, 1), T_X1_fillProducts)), (58, (1, 0, 0, false, (0, 1), T_X1_findGenerator)), (61, (1, 0, 0, false, (0, 1), T_X1_fillTraces))], ltX1, [], [], false, 0, (0, 0), [], [], [], true)
set_option maxHeartbeats 4000000 in
theorem s_X1_become : mm_Spec e_X1_become kX1_become 4 T_X1_become := by
  rintro N X K av h hK ⟨w, c, f, rfl, rfl, hf, h2⟩
  have h0 : CF0 f (kI (kI (kI c 1 (fP f : Nat)) 2 (fK f : Nat)) 3 (fQ f : Nat)) := ⟨hf, rfl, rfl, rfl⟩
  refine ⟨rfl, hK [] _ _ _ _ _ _ ?_⟩
  refine ⟨w, kI (kI (kI c 1 (fP f : Nat)) 2 (fK f : Nat)) 3 (fQ f : Nat), f, rfl, rfl, h0, fun c1 hF1 hs hn => ?_⟩
  have h01 : CF0 f c1 := ⟨hf, hF1.1 1 rfl, hF1.1 2 rfl, hF1.1 3 rfl⟩
  refine ⟨w, c1, f, rfl, rfl, h01, hs, hn, fun b hb => ?_⟩
  refine ⟨w, kA (kI c1 4 (fM f : Nat)) 4 b, f, rfl, rfl, h01, hs, hb, fun b2 hp => ?_⟩
  refine ⟨w, kA (kA (kI c1 4 (fM f : Nat)) 4 b) 5 b2, f, rfl, rfl, h01, hp, fun A B hw => ?_⟩
  refine ⟨w, kA (kA (kI (kA (kA (kI c1 4 (fM f : Nat)) 4 b) 5 b2) 5 (fG f : Nat)) 6 A) 7 B, f, rfl, rfl, h01, hs, hw, fun T ht => ?_⟩
  refine h2 _ ?_ ⟨h01, hs, hn, hp, hw, ht⟩ rfl rfl
  exact FC_A (FC_A (FC_A (FC_I (FC_A (FC_A (FC_I (FC_tr (FC_I (FC_I (FC_I (FC_rf c) rfl) rfl) rfl) hF1 rfl rfl rfl) rfl) rfl) rfl) rfl) rfl) rfl) rfl
theorem m_X1_become (l : Launch) : mm_Met l yX1_become cX1_become 4 none 4 0 0 T_X1_become := mm_met (E := e_X1_become) (cd := kX1_become) s_X1_become (by decide) kX1_become_ok (by decide +kernel) (by decide +kernel) (Or.inl ⟨rfl, rfl⟩) rfl (mm_eok_X1 _) (mm_calls_cons (mm_cbv wi_X1_fillSums (tb2 (i := 62) rfl rfl) (m_X1_fillSums l) (by decide) (by decide) rfl) (mm_calls_cons (mm_cbv wi_X1_findModulus (tb2 (i := 70) rfl rfl) (m_X1_findModulus l) (by decide) (by decide) rfl) (mm_calls_cons (mm_cbv wi_X1_fillProducts (tb2 (i := 94) rfl rfl) (m_X1_fillProducts l) (by decide) (by decide) rfl) (mm_calls_cons (mm_cbv wi_X1_findGenerator (tb2 (i := 98) rfl rfl) (m_X1_findGenerator l) (by decide) (by decide) rfl) (mm_calls_cons (mm_cbv wi_X1_fillTraces (tb2 (i := 110) rfl rfl) (m_X1_fillTraces l) (by decide) (by decide) rfl) (mm_calls_nil))))))
