/-! the component's ring: products, made less, taken -/
def shP (f : Nat) (b : Int64) (y : Nat → Int64) (s t n : Nat) : Int64 := sumL (fun j => b * y j * rho f ((s + j) % fN f) t) n
def T_X4_addShifted : Tr := fun av h N _ => ∃ (w : CW) (c : CS) (f r s : Nat) (b : Int64), av = [mR 10, mQ r, mL b, mI s] ∧ h = hC w c ∧ CG f c ∧ r < 24 ∧ s < fD f ∧ ∀ G : Int → Int64, (∀ t, t < fD f → gV f G t = gV f (c.2.2.1 12) t + shP f b (rowV c r) s t (fD f)) → N none (hC w (kL c 12 G))
abbrev e_X4_addShifted : NE := (ftX4, [], ltX4, [], [], false, 0, (0, 0), [], [], [], true)
set_option maxHeartbeats 4000000 in
theorem s_X4_addShifted : mm_Spec e_X4_addShifted kX4_addShifted 7 T_X4_addShifted := by
  rintro N X K av h hK ⟨w, c, f, r, s, b, rfl, rfl, hG, hr, hs, h2⟩
  have hb := halfb hG.1
  have hd : ∀ G : Int → Int64, (kL c 12 G).1 7 = (fD f : Int) := fun _ => hG.2.2.1
  have hh : ∀ G : Int → Int64, (kL c 12 G).1 8 = ((fN f / 2 : Nat) : Int) := fun _ => hG.2.2.2.1
  have hd220 : fD f ≤ 220 := (fbase hG.1).2.2.2.2.2.2.2.2.2.2.1
  have loop : ∀ i : Nat, i ≤ fD f → ∀ (G : Int → Int64) (o : Option MV), (∀ t, t < fD f → gV f G t = gV f (c.2.2.1 12) t + shP f b (rowV c r) s t i) → K 3 [some (mR 10), some (mQ r), some (mL b), none, some (mI s), some (mI i), o] [] (hC w (kL c 12 G)) 0 0 := by
    refine mm_for (fD f) (fun G o hg => ?_) (fun i hi ih G o hg => ?_)
    · refine hK [] _ _ _ _ _ _ ?_
      conv => whnf
      rw [hd]
      refine And.intro (fun _ => ?_) (fun q => absurd q (by omega))
      exact h2 G hg
    · have step : ∀ t, shP f b (rowV c r) s t (i + 1) = shP f b (rowV c r) s t i + b * rowV c r i * rho f (s + i) t := fun t => by
        show _ + b * rowV c r i * rho f ((s + i) % fN f) t = _
        rw [Nat.mod_eq_of_lt (by omega)]
        rfl
      refine hK [3] _ _ _ _ _ _ ?_
      conv => whnf
      rw [hd]
      refine And.intro (fun q => absurd q (by omega)) (fun _ => ?_)
      conv => whnf
      rw [cadd, Nat.add_comm i s]
      refine And.intro (rng_nat (by omega)) ?_
      conv => whnf
      rw [hh]
      refine And.intro (fun q => ?_) (fun q => ?_)
      · conv => whnf
        rw [hh, show ((s + i : Nat) : Int) - ((fN f / 2 : Nat) : Int) = ((s + i - fN f / 2 : Nat) : Int) by omega]
        refine And.intro (rng_nat (by omega)) ?_
        refine And.intro (by omega) ?_
        refine And.intro ⟨hr, by omega, by omega⟩ ?_
        refine And.intro (by omega) ?_
        refine And.intro (rng_of (by omega) (by omega)) ?_
        refine ih (mm_updL G ((s + i - fN f / 2 : Nat) : Int) (G ((s + i - fN f / 2 : Nat) : Int) - b * rowV c r i)) _ (fun t ht => ?_)
        rw [gV_sub hG.1 ht (by omega), hg t ht, step, show s + i - fN f / 2 + fN f / 2 = s + i by omega, Int64.add_assoc]
      · refine And.intro (by omega) ?_
        refine And.intro ⟨hr, by omega, by omega⟩ ?_
        refine And.intro (by omega) ?_
        refine And.intro (rng_of (by omega) (by omega)) ?_
        refine ih (mm_updL G ((s + i : Nat) : Int) (G ((s + i : Nat) : Int) + b * rowV c r i)) _ (fun t ht => ?_)
        rw [gV_upd (by omega), hg t ht, step, Int64.add_assoc]
  refine ⟨rfl, hK [3] _ _ _ _ _ _ ?_⟩
  have h3 := loop 0 (by omega) (c.2.2.1 12) none (fun t ht => by show _ = _ + (0 : Int64); simp)
  rw [kL_self] at h3
  exact h3
theorem m_X4_addShifted (l : Launch) : mm_Met l yX4_addShifted cX4_addShifted 7 none 0 0 0 T_X4_addShifted := mm_met (E := e_X4_addShifted) (cd := kX4_addShifted) s_X4_addShifted (by decide) kX4_addShifted_ok (by decide +kernel) (by decide +kernel) (Or.inl ⟨rfl, rfl⟩) rfl (mm_eok_X4 _) (mm_calls_nil)
def muP (f : Nat) (x y : Nat → Int64) (t n : Nat) : Int64 := sumL (fun i => sumL (fun j => x i * y j * rho f ((i + j) % fN f) t) (fD f)) n
def T_X4_multiply : Tr := fun av h N _ => ∃ (w : CW) (c : CS) (f r q : Nat), av = [mR 10, mQ r, mQ q] ∧ h = hC w c ∧ CG f c ∧ r < 24 ∧ q < 24 ∧ ∀ G : Int → Int64, (∀ t, t < fD f → gV f G t = mulV f (rowV c r) (rowV c q) t) → N none (hC w (kL c 12 G))
abbrev e_X4_multiply : NE := (ftX4, [(51, (1, 0, 0, false, (0, 4), T_X4_clear)), (54, (4, 0, 0, false, (0, 4), T_X4_addShifted))], ltX4, [], [], false, 0, (0, 0), [], [], [], true)
theorem s_X4_multiply : mm_Spec e_X4_multiply kX4_multiply 4 T_X4_multiply := by
  rintro N X K av h hK ⟨w, c, f, r, q, rfl, rfl, hG, hr, hq, h2⟩
  have hb := halfb hG.1
  have hd : ∀ G : Int → Int64, (kL c 12 G).1 7 = (fD f : Int) := fun _ => hG.2.2.1
  have hd220 : fD f ≤ 220 := (fbase hG.1).2.2.2.2.2.2.2.2.2.2.1
  have loop : ∀ i : Nat, i ≤ fD f → ∀ G : Int → Int64, (∀ t, t < fD f → gV f G t = muP f (rowV c r) (rowV c q) t i) → K 6 [some (mR 10), some (mQ r), some (mQ q), some (mI i)] [] (hC w (kL c 12 G)) 0 0 := by
    refine mm_for (fD f) (fun G hg => ?_) (fun i hi ih G hg => ?_)
    · refine hK [] _ _ _ _ _ _ ?_
      conv => whnf
      rw [hd]
      refine And.intro (fun _ => ?_) (fun q => absurd q (by omega))
      exact h2 G hg
    · have step : ∀ t, muP f (rowV c r) (rowV c q) t (i + 1) = muP f (rowV c r) (rowV c q) t i + shP f (rowV c r i) (rowV c q) i t (fD f) := fun t => rfl
      refine hK [6] _ _ _ _ _ _ ?_
      conv => whnf
      rw [hd]
      refine And.intro (fun q => absurd q (by omega)) (fun _ => ?_)
      refine And.intro ⟨hr, by omega, by omega⟩ ?_
      refine And.intro (fun z => ?_) (fun z => ?_)
      · refine And.intro (rng_of (by omega) (by omega)) ?_
        refine ih G (fun t ht => ?_)
        have e0 : rowV c r i = 0 := by show Int64.ofInt (c.2.2.2.1 r (i : Int)) = 0; rw [show c.2.2.2.1 r (i : Int) = 0 from z]; rfl
        have e1 : shP f (rowV c r i) (rowV c q) i t (fD f) = 0 := by
          unfold shP
          rw [sumL_congr (g' := fun _ => 0) (fD f) (fun j hj => by rw [e0]; simp), sumL_0]
        rw [hg t ht, step, e1]
        simp
      · refine And.intro ⟨hr, by omega, by omega⟩ ?_
        refine ⟨w, kL c 12 G, f, q, i, rowV c r i, rfl, rfl, hG, hq, hi, fun G2 hg2 => ?_⟩
        refine And.intro (rng_of (by omega) (by omega)) ?_
        have h3 := ih G2 (fun t ht => by rw [hg2 t ht, kL_at, hg t ht, step]; rfl)
        rw [← kL_kL c G G2] at h3
        exact h3
  refine ⟨rfl, hK [6] _ _ _ _ _ _ ?_⟩
  refine ⟨w, c, rfl, rfl, fun G hg => ?_⟩
  exact loop 0 (by omega) G (fun t ht => gV_0 hG.1 (fun i h1 h3 => by rw [hg, if_pos ⟨h1, h3⟩]))
theorem m_X4_multiply (l : Launch) : mm_Met l yX4_multiply cX4_multiply 4 none 2 0 0 T_X4_multiply := mm_met (E := e_X4_multiply) (cd := kX4_multiply) s_X4_multiply (by decide) kX4_multiply_ok (by decide +kernel) (by decide +kernel) (Or.inl ⟨rfl, rfl⟩) rfl (mm_eok_X4 _) (mm_calls_cons (mm_cbv wi_X4_clear (tb2 (i := 130) rfl rfl) (m_X4_clear l) (by decide) (by decide) rfl) (mm_calls_cons (mm_cbv wi_X4_addShifted (tb4 (i := 52) rfl rfl) (m_X4_addShifted l) (by decide) (by decide) rfl) (mm_calls_nil)))
theorem tL_lt (f : Nat) : (tL f).Pairwise (· < ·) := List.Pairwise.filter _ List.pairwise_lt_range
theorem tL_get {f i : Nat} (hi : i < (tL f).length) : (tL f).getD i 0 = (tL f)[i] := by
  rw [List.getD_eq_getElem?_getD, List.getElem?_eq_getElem hi]
  rfl
theorem tL_inj {f i j : Nat} (hj : j < i) (hi : i < (tL f).length) : (tL f).getD j 0 < (tL f).getD i 0 := by
  rw [tL_get hi, tL_get (by omega)]
  exact List.pairwise_iff_getElem.mp (tL_lt f) j i (by omega) hi hj
theorem tL_d {f i : Nat} (hi : i < (tL f).length) : (tL f).getD i 0 < fD f := by
  rw [tL_get hi]
  have := List.getElem_mem hi
  exact List.mem_range.mp (List.mem_filter.mp this).1
theorem tL_mem {f p : Nat} (hp : p < fD f) (h : fphi f p ≠ 0) : ∃ i, i < (tL f).length ∧ (tL f).getD i 0 = p := by
  have hm : p ∈ tL f := List.mem_filter.mpr ⟨List.mem_range.mpr hp, by rw [decide_eq_false h]; rfl⟩
  obtain ⟨i, hi, he⟩ := List.getElem_of_mem hm
  exact ⟨i, hi, by rw [tL_get hi]; exact he⟩
theorem tL_len (f : Nat) : (tL f).length ≤ fD f := by
  have := List.length_filter_le (fun j => !(decide (fphi f j = 0))) (List.range (fD f))
  rw [List.length_range] at this
  exact this
def T_X4_reduce : Tr := fun av h N _ => ∃ (w : CW) (c : CS) (f : Nat), av = [mR 10] ∧ h = hC w c ∧ CG f c ∧ ∀ G : Int → Int64, (∀ t : Nat, t < fD f → G (t : Int) = gV f (c.2.2.1 12) t) → N none (hC w (kL c 12 G))
abbrev e_X4_reduce : NE := (ftX4, [], ltX4, [], [], false, 0, (0, 0), [], [], [], true)
set_option maxHeartbeats 8000000 in
theorem s_X4_reduce : mm_Spec e_X4_reduce kX4_reduce 5 T_X4_reduce := by
  rintro N X K av h hK ⟨w, c, f, rfl, rfl, hG, h2⟩
  have hb := halfb hG.1
  have hd220 : fD f ≤ 220 := (fbase hG.1).2.2.2.2.2.2.2.2.2.2.1
  have hd : ∀ G : Int → Int64, (kL c 12 G).1 7 = (fD f : Int) := fun _ => hG.2.2.1
  have htc : ∀ G : Int → Int64, (kL c 12 G).1 9 = ((tL f).length : Int) := fun _ => hG.2.2.2.2.2.1
  have htp : ∀ (G : Int → Int64) (i : Nat), i < (tL f).length → (kL c 12 G).2.1 13 (i : Int) = ((tL f).getD i 0 : Nat) := fun _ i hi => (hG.2.2.2.2.2.2 i hi).1
  have htf : ∀ (G : Int → Int64) (i : Nat), i < (tL f).length → (kL c 12 G).2.1 14 (i : Int) = fphi f ((tL f).getD i 0) := fun _ i hi => (hG.2.2.2.2.2.2 i hi).2
  have htl := tL_len f
  have outer : ∀ (n : Nat) (G : Int → Int64) (o2 o4 : Option MV) (a : Int), fD f + n ≤ fN f / 2 → a = (fD f : Int) + n - 1 → (∀ t, t < fD f → cV f (fun e => G (e : Int)) (fD f + n) t = gV f (c.2.2.1 12) t) → K 7 [some (mR 10), some (mI a), o2, none, o4] [] (hC w (kL c 12 G)) 0 0 := by
    intro n
    induction n with
    | zero =>
      intro G o2 o4 a hn ha hg
      refine hK [] _ _ _ _ _ _ ?_
      conv => whnf
      rw [hd]
      refine And.intro (fun _ => ?_) (fun q => absurd q (by omega))
      refine h2 G (fun t ht => ?_)
      rw [← hg t ht]
      exact (cV_low (c := fun e => G (e : Int)) hG.1 ht).symm
    | succ n ih =>
      intro G o2 o4 a hn ha hg
      have ha : a = ((fD f + n : Nat) : Int) := by omega
      subst ha
      -- the rest of the polynomial
      have next : ∀ (G2 : Int → Int64) (o4 : Option MV) (T : Int64), T = G ((fD f + n : Nat) : Int) → (∀ e : Nat, e < fD f + n → G2 (e : Int) = if n ≤ e then G (e : Int) - T * ph f (e - n) else G (e : Int)) → K 85 [some (mR 10), some (mI ((fD f + n : Nat) : Int)), some (mL T), none, o4] [] (hC w (kL c 12 G2)) 0 0 := by
        intro G2 o4 T hT hG2
        refine hK [7] _ _ _ _ _ _ ?_
        refine And.intro (rng_of (by omega) (by omega)) ?_
        refine ih G2 _ _ _ (by omega) (by omega) (fun t ht => ?_)
        rw [← hg t ht]
        refine cV_less (k := fD f + n) hG.1 ht (by omega) (fun e he => ?_)
        rw [show fD f + n - fD f = n by omega]
        show G2 (e : Int) = _
        rw [hG2 e he, hT]
      have inner : ∀ (T : Int64), T = G ((fD f + n : Nat) : Int) → ¬ T = 0 → ∀ i : Nat, i ≤ (tL f).length → ∀ G2 : Int → Int64, (∀ j : Nat, j < i → G2 ((n + (tL f).getD j 0 : Nat) : Int) = G ((n + (tL f).getD j 0 : Nat) : Int) - T * ph f ((tL f).getD j 0)) → (∀ e : Nat, e < fD f + n → (∀ j, j < i → e ≠ n + (tL f).getD j 0) → G2 (e : Int) = G (e : Int)) → K 32 [some (mR 10), some (mI ((fD f + n : Nat) : Int)), some (mL T), none, some (mI i)] [] (hC w (kL c 12 G2)) 0 0 := by
        intro T hT hT0
        have hcmp : ¬ mm_cmp T 0 = 0 := fun z => hT0 ((cmp_eq T 0).mp z)
        refine mm_for (tL f).length (fun G2 h1 h3 => ?_) (fun i hi ihi G2 h1 h3 => ?_)
        · refine hK [85] _ _ _ _ _ _ ?_
          refine And.intro (fun z => absurd z hcmp) (fun _ => ?_)
          conv => whnf
          rw [htc]
          refine And.intro (fun _ => ?_) (fun q => absurd q (by omega))
          refine next G2 _ T hT (fun e he => ?_)
          by_cases q : n ≤ e
          · rw [if_pos q]
            by_cases q2 : fphi f (e - n) = 0
            · rw [h3 e he (fun j hj z => ?_)]
              · unfold ph
                rw [q2]
                show _ = _ - T * 0
                simp
              · have hmm := List.getElem_mem hj
                have hnz := (List.mem_filter.mp hmm).2
                rw [tL_get hj] at z
                rw [show e - n = (tL f)[j] by omega] at q2
                rw [q2] at hnz
                exact absurd hnz (by decide)
            · obtain ⟨j, hj, hp⟩ := tL_mem (f := f) (p := e - n) (by omega) q2
              have h4 := h1 j hj
              rw [hp, show n + (e - n) = e by omega] at h4
              exact h4
          · rw [if_neg q]
            exact h3 e he (fun j _ z => by omega)
        · have hti := tL_d hi
          refine hK [32] _ _ _ _ _ _ ?_
          refine And.intro (fun z => absurd z hcmp) (fun _ => ?_)
          conv => whnf
          rw [htc]
          refine And.intro (fun q => absurd q (by omega)) (fun _ => ?_)
          conv => whnf
          rw [hd, show ((fD f + n : Nat) : Int) - (fD f : Int) = (n : Int) by omega]
          refine And.intro (rng_of (by omega) (by omega)) ?_
          refine And.intro (by omega) ?_
          conv => whnf
          rw [htp G2 i hi, cadd]
          refine And.intro (rng_nat (by omega)) ?_
          refine And.intro (by omega) ?_
          refine And.intro (by omega) ?_
          conv => whnf
          rw [htf G2 i hi]
          refine And.intro (by omega) ?_
          refine And.intro (rng_of (by omega) (by omega)) ?_
          refine ihi (mm_updL G2 ((n + (tL f).getD i 0 : Nat) : Int) (G2 ((n + (tL f).getD i 0 : Nat) : Int) - T * ph f ((tL f).getD i 0))) (fun j hj => ?_) (fun e he hne => ?_)
          · unfold mm_updL
            by_cases q : j = i
            · subst q
              rw [if_pos rfl, h3 _ (by omega) (fun j2 hj2 z => by have := tL_inj hj2 hi; omega)]
            · have := tL_inj (f := f) (j := j) (i := i) (by omega) hi
              rw [if_neg (by omega)]
              exact h1 j (by omega)
          · unfold mm_updL
            have := hne i (by omega)
            rw [if_neg (by omega)]
            exact h3 e he (fun j hj => hne j (by omega))
      refine hK [85, 32] _ _ _ _ _ _ ?_
      conv => whnf
      rw [hd]
      refine And.intro (fun q => absurd q (by omega)) (fun _ => ?_)
      refine And.intro (by omega) ?_
      refine And.intro (by omega) ?_
      by_cases hT0 : G ((fD f + n : Nat) : Int) = 0
      · have hcmp : mm_cmp (G ((fD f + n : Nat) : Int)) 0 = 0 := (cmp_eq _ 0).mpr hT0
        have h3 : K 32 [some (mR 10), some (mI ((fD f + n : Nat) : Int)), some (mL (G ((fD f + n : Nat) : Int))), none, some (mI 0)] [] (hC w (kL c 12 (mm_updL G ((fD f + n : Nat) : Int) 0))) 0 0 := by
          refine hK [85] _ _ _ _ _ _ ?_
          refine And.intro (fun _ => ?_) (fun z => absurd hcmp z)
          refine next _ _ _ rfl (fun e he => ?_)
          unfold mm_updL
          rw [if_neg (by omega), hT0]
          simp
        exact h3
      · refine inner _ rfl hT0 0 (by omega) (mm_updL G ((fD f + n : Nat) : Int) 0) (fun j hj => absurd hj (by omega)) (fun e he _ => ?_)
        unfold mm_updL
        rw [if_neg (by omega)]
  refine ⟨rfl, hK [7] _ _ _ _ _ _ ?_⟩
  conv => whnf
  rw [hG.2.2.2.1]
  refine And.intro (rng_of (by omega) (by omega)) ?_
  have h3 := outer (fN f / 2 - fD f) (c.2.2.1 12) none none _ (by omega) rfl (fun t ht => by rw [show fD f + (fN f / 2 - fD f) = fN f / 2 by omega]; rfl)
  rw [kL_self, show (fD f : Int) + ((fN f / 2 - fD f : Nat) : Int) - 1 = ((fN f / 2 : Nat) : Int) - 1 by omega] at h3
  exact h3
theorem m_X4_reduce (l : Launch) : mm_Met l yX4_reduce cX4_reduce 5 none 0 0 0 T_X4_reduce := mm_met (E := e_X4_reduce) (cd := kX4_reduce) s_X4_reduce (by decide) kX4_reduce_ok (by decide +kernel) (by decide +kernel) (Or.inl ⟨rfl, rfl⟩) rfl (mm_eok_X4 _) (mm_calls_nil)
