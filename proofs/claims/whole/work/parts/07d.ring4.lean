/-! the component's ring: movings of a value -/
theorem stB_0 {f : Nat} {V : Nat → Int64} (hf : f < 15) : stB f V 0 = false := by
  have hb := halfb hf
  unfold stB
  refine decide_eq_false (fun z => ?_)
  have := z.1
  rw [Nat.gcd_zero_left] at this
  omega
theorem mv_1 {f t : Nat} {V : Nat → Int64} (hf : f < 15) (ht : t < fD f) : mvV f V 1 t = V t := by
  have hb := halfb hf
  unfold mvV
  rw [sumL_congr (g' := fun j => V j * (if t = j then 1 else 0)) (fD f) (fun j hj => by rw [Nat.mul_one, Nat.mod_eq_of_lt (by omega), rho_low hf hj ht]), sumL_one, if_pos ht]
theorem cnt_2 {f : Nat} {V : Nat → Int64} (hf : f < 15) : cntB (stB f V) 2 = 1 := by
  show 0 + (match stB f V 0 with | true => 1 | false => 0) + (match stB f V 1 with | true => 1 | false => 0) = 1
  rw [stB_0 hf, stB_1 hf]
  rfl
theorem stB_n {f a : Nat} {V : Nat → Int64} (h : mvB f a = false) : stB f V a = false := by
  unfold stB
  refine decide_eq_false (fun z => ?_)
  rw [mvB_iff.mpr z.1] at h
  cases h
theorem stB_b {f a : Nat} {V : Nat → Int64} (h : mvB f a = true) : (bi (sameV f (mvV f V a) V) = 0 → stB f V a = false) ∧ (¬ bi (sameV f (mvV f V a) V) = 0 → stB f V a = true) := by
  unfold stB
  exact ⟨fun z => decide_eq_false (fun y => bi_c0 z y.2), fun z => decide_eq_true ⟨mvB_iff.mp h, bi_c1 z⟩⟩
def T_X4_unlikeMovings : Tr := fun av h N _ => ∃ (w : CW) (c : CS) (f r : Nat), av = [mR 10, mQ r] ∧ h = hC w c ∧ CG f c ∧ r < 24 ∧ ∀ G : Int → Int64, N (some (mI (fD f / cntB (stB f (rowV c r)) (fN f) : Nat))) (hC w (kL c 12 G))
abbrev e_X4_unlikeMovings : NE := (ftX4, [(80, (3, 0, 0, false, (0, 4), T_X4_staysWhenMoved))], ltX4, [], [], false, 1, (0, 0), [], [], [], true)
theorem s_X4_unlikeMovings : mm_Spec e_X4_unlikeMovings kX4_unlikeMovings 4 T_X4_unlikeMovings := by
  rintro N X K av h hK ⟨w, c, f, r, rfl, rfl, hG, hr, h2⟩
  have hb := halfb hG.1
  have hd220 : fD f ≤ 220 := (fbase hG.1).2.2.2.2.2.2.2.2.2.2.1
  have hn : ∀ G : Int → Int64, (kL c 12 G).1 6 = (fN f : Int) := fun _ => hG.2.1
  have hd : ∀ G : Int → Int64, (kL c 12 G).1 7 = (fD f : Int) := fun _ => hG.2.2.1
  have loop : ∀ a : Nat, a ≤ fN f → 2 ≤ a → ∀ G : Int → Int64, K 4 [some (mR 10), some (mQ r), some (mI (cntB (stB f (rowV c r)) a : Nat)), some (mI a)] [] (hC w (kL c 12 G)) 0 0 := by
    refine mm_for (fN f) (fun ha G => ?_) (fun a ha ih ha2 G => ?_)
    · have h1 := cntB_pos (b := stB f (rowV c r)) (m := 1) (n := fN f) (by omega) (stB_1 hG.1)
      refine hK [] _ _ _ _ _ _ ?_
      conv => whnf
      rw [hn]
      refine And.intro (fun _ => ?_) (fun q => absurd q (by omega))
      conv => whnf
      rw [hd]
      refine And.intro (dv_ok (by omega) (by omega)) ?_
      rw [tdn]
      exact h2 G
    · have hcl := cntB_le (stB f (rowV c r)) a
      have step : cntB (stB f (rowV c r)) (a + 1) = cntB (stB f (rowV c r)) a + (match stB f (rowV c r) a with | true => 1 | false => 0) := rfl
      have same : ∀ G2 : Int → Int64, stB f (rowV c r) a = false → K 33 [some (mR 10), some (mQ r), some (mI (cntB (stB f (rowV c r)) a : Nat)), some (mI a)] [] (hC w (kL c 12 G2)) 0 0 := by
        intro G2 z
        rw [z] at step
        have ih := ih (by omega) G2
        rw [step] at ih
        refine hK [4] _ _ _ _ _ _ ?_
        refine And.intro (rng_of (by omega) (by omega)) ?_
        exact ih
      refine hK [4, 33] _ _ _ _ _ _ ?_
      conv => whnf
      rw [hn]
      refine And.intro (fun q => absurd q (by omega)) (fun _ => ?_)
      refine And.intro (by omega) ?_
      conv => whnf
      rw [show (kL c 12 G).2.1 11 (a : Int) = _ from hG.2.2.2.2.1 a ha]
      refine And.intro (fun q => ?_) (fun q => ?_)
      · exact same G (stB_n (ind_e0 q))
      · have q := ind_n0 q
        refine ⟨w, kL c 12 G, f, r, a, rfl, rfl, hG, hr, by omega, fun G2 => ?_⟩
        rw [kL_kL]
        have hsb := stB_b (V := rowV c r) q
        refine And.intro (fun q2 => ?_) (fun q2 => ?_)
        · exact same G2 (hsb.1 q2)
        · rw [hsb.2 q2] at step
          have ih := ih (by omega) G2
          rw [step] at ih
          have h3 : K 33 [some (mR 10), some (mQ r), some (mI (cntB (stB f (rowV c r)) a + 1 : Nat)), some (mI a)] [] (hC w (kL c 12 G2)) 0 0 := by
            refine hK [4] _ _ _ _ _ _ ?_
            refine And.intro (rng_of (by omega) (by omega)) ?_
            exact ih
          refine And.intro (rng_of (by omega) (by omega)) ?_
          exact h3
  refine ⟨rfl, hK [4] _ _ _ _ _ _ ?_⟩
  have h3 := loop 2 (by omega) (by omega) (c.2.2.1 12)
  rw [kL_self, cnt_2 hG.1] at h3
  exact h3
theorem m_X4_unlikeMovings (l : Launch) : mm_Met l yX4_unlikeMovings cX4_unlikeMovings 4 (some .int) 4 0 0 T_X4_unlikeMovings := mm_met (E := e_X4_unlikeMovings) (cd := kX4_unlikeMovings) s_X4_unlikeMovings (by decide) kX4_unlikeMovings_ok (by decide +kernel) (by decide +kernel) (Or.inr (Or.inl ⟨rfl, rfl⟩)) rfl (mm_eok_X4 _) (mm_calls_cons (mm_cbv wi_X4_staysWhenMoved (tb4 (i := 193) rfl rfl) (m_X4_staysWhenMoved l) (by decide) (by decide) rfl) (mm_calls_nil))
def T_X4_firstStay : Tr := fun av h N _ => ∃ (w : CW) (c : CS) (f r : Nat), av = [mR 10, mQ r] ∧ h = hC w c ∧ CG f c ∧ r < 24 ∧ ∀ G : Int → Int64, N (some (mI (lmX f (rowV c r)))) (hC w (kL c 12 G))
abbrev e_X4_firstStay : NE := (ftX4, [(80, (3, 0, 0, false, (0, 4), T_X4_staysWhenMoved))], ltX4, [], [], false, 1, (0, 0), [], [], [], true)
theorem s_X4_firstStay : mm_Spec e_X4_firstStay kX4_firstStay 3 T_X4_firstStay := by
  rintro N X K av h hK ⟨w, c, f, r, rfl, rfl, hG, hr, h2⟩
  have hb := halfb hG.1
  have hn : ∀ G : Int → Int64, (kL c 12 G).1 6 = (fN f : Int) := fun _ => hG.2.1
  unfold lmX at h2
  have loop : ∀ (n a : Nat) (G : Int → Int64), a + n = fN f → 2 ≤ a → fst0 (stB f (rowV c r)) n a = fst0 (stB f (rowV c r)) (fN f - 2) 2 → K 2 [some (mR 10), some (mQ r), some (mI a)] [] (hC w (kL c 12 G)) 0 0 := by
    intro n
    induction n with
    | zero =>
      intro a G ha ha2 he
      have he : a = fst0 (stB f (rowV c r)) (fN f - 2) 2 := he
      have h2 := h2 G
      rw [if_neg (by omega)] at h2
      refine hK [] _ _ _ _ _ _ ?_
      conv => whnf
      rw [hn]
      refine And.intro (fun _ => ?_) (fun q => absurd q (by omega))
      exact h2
    | succ n ih =>
      intro a G ha ha2 he
      have he : (match stB f (rowV c r) a with | true => a | false => fst0 (stB f (rowV c r)) n (a + 1)) = fst0 (stB f (rowV c r)) (fN f - 2) 2 := he
      have same : ∀ G2 : Int → Int64, stB f (rowV c r) a = false → K 30 [some (mR 10), some (mQ r), some (mI a)] [] (hC w (kL c 12 G2)) 0 0 := by
        intro G2 z
        rw [z] at he
        refine hK [2] _ _ _ _ _ _ ?_
        refine And.intro (rng_of (by omega) (by omega)) ?_
        exact ih (a + 1) G2 (by omega) (by omega) he
      refine hK [2, 30] _ _ _ _ _ _ ?_
      conv => whnf
      rw [hn]
      refine And.intro (fun q => absurd q (by omega)) (fun _ => ?_)
      refine And.intro (by omega) ?_
      conv => whnf
      rw [show (kL c 12 G).2.1 11 (a : Int) = _ from hG.2.2.2.2.1 a (by omega)]
      refine And.intro (fun q => ?_) (fun q => ?_)
      · exact same G (stB_n (ind_e0 q))
      · have q := ind_n0 q
        refine ⟨w, kL c 12 G, f, r, a, rfl, rfl, hG, hr, by omega, fun G2 => ?_⟩
        rw [kL_kL]
        have hsb := stB_b (V := rowV c r) q
        refine And.intro (fun q2 => ?_) (fun q2 => ?_)
        · exact same G2 (hsb.1 q2)
        · rw [hsb.2 q2] at he
          have he : a = fst0 (stB f (rowV c r)) (fN f - 2) 2 := he
          have h2 := h2 G2
          rw [← he, if_pos (by omega)] at h2
          exact h2
  refine ⟨rfl, hK [2] _ _ _ _ _ _ ?_⟩
  have h3 := loop (fN f - 2) 2 (c.2.2.1 12) (by omega) (by omega) rfl
  rw [kL_self] at h3
  exact h3
theorem m_X4_firstStay (l : Launch) : mm_Met l yX4_firstStay cX4_firstStay 3 (some .int) 4 0 0 T_X4_firstStay := mm_met (E := e_X4_firstStay) (cd := kX4_firstStay) s_X4_firstStay (by decide) kX4_firstStay_ok (by decide +kernel) (by decide +kernel) (Or.inr (Or.inl ⟨rfl, rfl⟩)) rfl (mm_eok_X4 _) (mm_calls_cons (mm_cbv wi_X4_staysWhenMoved (tb4 (i := 193) rfl rfl) (m_X4_staysWhenMoved l) (by decide) (by decide) rfl) (mm_calls_nil))
def amP (f : Nat) (V : Nat → Int64) (t n : Nat) : Int64 := sumL (fun m => if Nat.gcd m (fN f) = 1 then mvV f V m t else 0) n
def T_X4_allMovings : Tr := fun av h N _ => ∃ (w : CW) (c : CS) (f r : Nat), av = [mR 10, mQ r] ∧ h = hC w c ∧ CG f c ∧ r < 24 ∧ ∀ G : Int → Int64, N (some (mL (amV f (rowV c r) 0))) (hC w (kL c 12 G))
abbrev e_X4_allMovings : NE := (ftX4, [(51, (1, 0, 0, false, (0, 4), T_X4_clear)), (58, (3, 0, 0, false, (0, 4), T_X4_addMoved)), (66, (1, 0, 0, false, (0, 4), T_X4_reduce))], ltX4, [], [], false, 3, (0, 0), [], [], [], true)
theorem s_X4_allMovings : mm_Spec e_X4_allMovings kX4_allMovings 3 T_X4_allMovings := by
  rintro N X K av h hK ⟨w, c, f, r, rfl, rfl, hG, hr, h2⟩
  have hb := halfb hG.1
  have hn : ∀ G : Int → Int64, (kL c 12 G).1 6 = (fN f : Int) := fun _ => hG.2.1
  have loop : ∀ a : Nat, a ≤ fN f → ∀ G : Int → Int64, (∀ t, t < fD f → gV f G t = amP f (rowV c r) t a) → K 6 [some (mR 10), some (mQ r), some (mI a)] [] (hC w (kL c 12 G)) 0 0 := by
    refine mm_for (fN f) (fun G hg => ?_) (fun a ha ih G hg => ?_)
    · refine hK [] _ _ _ _ _ _ ?_
      conv => whnf
      rw [hn]
      refine And.intro (fun _ => ?_) (fun q => absurd q (by omega))
      refine ⟨w, kL c 12 G, f, rfl, rfl, hG, fun G2 hg2 => ?_⟩
      rw [kL_kL]
      refine And.intro (by omega) ?_
      have h3 := h2 G2
      rw [show amV f (rowV c r) 0 = G2 ((0 : Nat) : Int) by rw [hg2 0 (by omega), kL_at, hg 0 (by omega)]; rfl] at h3
      exact h3
    · have step : ∀ t, amP f (rowV c r) t (a + 1) = amP f (rowV c r) t a + (if Nat.gcd a (fN f) = 1 then mvV f (rowV c r) a t else 0) := fun _ => rfl
      refine hK [6] _ _ _ _ _ _ ?_
      conv => whnf
      rw [hn]
      refine And.intro (fun q => absurd q (by omega)) (fun _ => ?_)
      refine And.intro (by omega) ?_
      conv => whnf
      rw [show (kL c 12 G).2.1 11 (a : Int) = _ from hG.2.2.2.2.1 a ha]
      refine And.intro (fun q => ?_) (fun q => ?_)
      · have q := ind_e0 q
        refine And.intro (rng_of (by omega) (by omega)) ?_
        refine ih G (fun t ht => ?_)
        rw [hg t ht, step, if_neg (fun z => by rw [mvB_iff.mpr z] at q; cases q)]
        exact (Int64.add_zero _).symm
      · have q := mvB_iff.mp (ind_n0 q)
        refine ⟨w, kL c 12 G, f, r, a, rfl, rfl, hG, hr, by omega, fun G2 hg2 => ?_⟩
        rw [kL_kL]
        refine And.intro (rng_of (by omega) (by omega)) ?_
        refine ih G2 (fun t ht => ?_)
        rw [hg2 t ht, kL_at, hg t ht, step, if_pos q]
        rfl
  refine ⟨rfl, hK [6] _ _ _ _ _ _ ?_⟩
  refine ⟨w, c, rfl, rfl, fun G hg => ?_⟩
  exact loop 0 (by omega) G (fun t ht => gV_0 hG.1 (fun i h1 h3 => by rw [hg, if_pos ⟨h1, h3⟩]))
theorem m_X4_allMovings (l : Launch) : mm_Met l yX4_allMovings cX4_allMovings 3 (some .long) 2 0 0 T_X4_allMovings := mm_met (E := e_X4_allMovings) (cd := kX4_allMovings) s_X4_allMovings (by decide) kX4_allMovings_ok (by decide +kernel) (by decide +kernel) (Or.inr (Or.inr (Or.inr (Or.inl ⟨rfl, rfl⟩)))) rfl (mm_eok_X4 _) (mm_calls_cons (mm_cbv wi_X4_clear (tb2 (i := 130) rfl rfl) (m_X4_clear l) (by decide) (by decide) rfl) (mm_calls_cons (mm_cbv wi_X4_addMoved (tb3 (i := 56) rfl rfl) (m_X4_addMoved l) (by decide) (by decide) rfl) (mm_calls_cons (mm_cbv wi_X4_reduce (tb3 (i := 77) rfl rfl) (m_X4_reduce l) (by decide) (by decide) rfl) (mm_calls_nil))))
/-! the component's ring: which move -/
def dvB (f dv u : Nat) : Bool := (List.range dv).all (fun d => Nat.ble d 1 || (!(Nat.beq (fN f % d) 0) || !(Nat.beq (u % d) 0)))
theorem dvB_s (f dv u : Nat) : dvB f (dv + 1) u = (dvB f dv u && (Nat.ble dv 1 || (!(Nat.beq (fN f % dv) 0) || !(Nat.beq (u % dv) 0)))) := by
  unfold dvB
  rw [List.range_succ, List.all_append]
  simp
theorem dvB_end {f u : Nat} (hf : f < 15) : dvB f (fN f + 1) u = mvB f u := by
  have hb := halfb hf
  cases hm : mvB f u with
  | true =>
    have hg := mvB_iff.mp hm
    unfold dvB
    refine List.all_eq_true.mpr (fun d hd => ?_)
    rcases Nat.lt_or_ge 1 d with h1 | h1
    · have : ¬ (fN f % d = 0 ∧ u % d = 0) := fun z => by
        have h3 := Nat.dvd_gcd (Nat.dvd_of_mod_eq_zero z.2) (Nat.dvd_of_mod_eq_zero z.1)
        rw [hg] at h3
        have := Nat.le_of_dvd (by omega) h3
        omega
      by_cases q : fN f % d = 0
      · rw [show Nat.beq (u % d) 0 = false from beq_f (fun z => this ⟨q, z⟩)]
        simp
      · rw [show Nat.beq (fN f % d) 0 = false from beq_f q]
        simp
    · rw [Nat.ble_eq_true_of_le h1]
      rfl
  | false =>
    cases hz : dvB f (fN f + 1) u with
    | false => rfl
    | true =>
      unfold dvB at hz
      have hgl : Nat.gcd u (fN f) ≤ fN f := Nat.le_of_dvd (by omega) (Nat.gcd_dvd_right u (fN f))
      have h3 := List.all_eq_true.mp hz (Nat.gcd u (fN f)) (List.mem_range.mpr (by omega))
      have h4 : fN f % Nat.gcd u (fN f) = 0 := Nat.mod_eq_zero_of_dvd (Nat.gcd_dvd_right u (fN f))
      have h5 : u % Nat.gcd u (fN f) = 0 := Nat.mod_eq_zero_of_dvd (Nat.gcd_dvd_left u (fN f))
      rw [h4, h5] at h3
      have h6 : Nat.gcd u (fN f) ≤ 1 := by
        cases hy : Nat.ble (Nat.gcd u (fN f)) 1 with
        | true => exact Nat.le_of_ble_eq_true hy
        | false => rw [hy] at h3; exact absurd h3 (by decide)
      have h7 : 0 < Nat.gcd u (fN f) := Nat.gcd_pos_of_pos_right u (by omega)
      rw [mvB_iff.mpr (by omega)] at hm
      cases hm
theorem mvc_c : fevery (fun f => Nat.beq (cntB (mvB f) (fN f)) (fD f)) = true := by decide +kernel
def T_X4_findMovings : Tr := fun av h N _ => ∃ (w : CW) (c : CS) (f : Nat), av = [mR 10] ∧ h = hC w c ∧ f < 15 ∧ c.1 6 = (fN f : Nat) ∧ ∀ A : Int → Int, (∀ a : Nat, a < fN f → A (a : Int) = (ind (mvB f a) : Nat)) → N none (hC w (kI (kA c 11 A) 7 (fD f : Nat)))
abbrev e_X4_findMovings : NE := (ftX4, [], ltX4, [], [], false, 0, (0, 0), [], [], [], true)
set_option maxHeartbeats 8000000 in
theorem s_X4_findMovings : mm_Spec e_X4_findMovings kX4_findMovings 3 T_X4_findMovings := by
  rintro N X K av h hK ⟨w, c, f, rfl, rfl, hf, h6, h2⟩
  have hb := halfb hf
  have hn : ∀ A : Int → Int, (kA c 11 A).1 6 = (fN f : Int) := fun _ => h6
  have hnd : ∀ (A : Int → Int) (v : Int), (kI (kA c 11 A) 7 v).1 6 = (fN f : Int) := fun _ _ => h6
  -- how many
  have count : ∀ A : Int → Int, (∀ a : Nat, a < fN f → A (a : Int) = (ind (mvB f a) : Nat)) → ∀ a : Nat, a ≤ fN f → ∀ (o : Option MV) (v : Int), v = (cntB (mvB f) a : Nat) → K 79 [some (mR 10), some (mI a), o] [] (hC w (kI (kA c 11 A) 7 v)) 0 0 := by
    intro A hA
    refine mm_for (fN f) (fun o v hv => ?_) (fun a ha ih o v hv => ?_)
    · rw [Nat.eq_of_beq_eq_true (fevery_at mvc_c hf)] at hv
      have h3 := h2 A hA
      rw [← hv] at h3
      refine hK [] _ _ _ _ _ _ ?_
      conv => whnf
      rw [hnd]
      refine And.intro (fun _ => ?_) (fun q => absurd q (by omega))
      exact h3
    · have hcl := cntB_le (mvB f) a
      have step : cntB (mvB f) (a + 1) = cntB (mvB f) a + (match mvB f a with | true => 1 | false => 0) := rfl
      refine hK [79] _ _ _ _ _ _ ?_
      conv => whnf
      rw [hnd]
      refine And.intro (fun q => absurd q (by omega)) (fun _ => ?_)
      refine And.intro (by omega) ?_
      conv => whnf
      rw [show (kI (kA c 11 A) 7 v).2.1 11 (a : Int) = _ from hA a ha]
      refine And.intro (fun q => ?_) (fun q => ?_)
      · rw [ind_e0 q] at step
        refine And.intro (rng_of (by omega) (by omega)) ?_
        exact ih _ v (by rw [step]; exact hv)
      · rw [ind_n0 q] at step
        conv => whnf
        rw [show (kI (kA c 11 A) 7 v).1 7 = v from rfl]
        refine And.intro (rng_of (by omega) (by omega)) ?_
        refine And.intro (rng_of (by omega) (by omega)) ?_
        exact ih _ (v + 1) (by rw [step, hv]; rfl)
  -- divisors
  have divs : ∀ n dv : Nat, dv + n = fN f + 1 → 2 ≤ dv → ∀ (A : Int → Int) (o : Option MV), (∀ u : Nat, u < fN f → A (u : Int) = (ind (dvB f dv u) : Nat)) → K 25 [some (mR 10), some (mI dv), o] [] (hC w (kA c 11 A)) 0 0 := by
    intro n
    induction n with
    | zero =>
      intro dv hdv h2d A o hA
      have e : dv = fN f + 1 := by omega
      subst e
      refine hK [79] _ _ _ _ _ _ ?_
      conv => whnf
      rw [hn]
      refine And.intro (fun _ => ?_) (fun q => absurd q (by omega))
      exact count A (fun a ha => by rw [hA a ha, dvB_end hf]) 0 (by omega) _ 0 rfl
    | succ n ih =>
      intro dv hdv h2d A o hA
      by_cases hdn : fN f % dv = 0
      · have inner : ∀ (m j : Nat) (A : Int → Int), j * dv + m = fN f + dv → (∀ u : Nat, u < fN f → A (u : Int) = if u % dv = 0 ∧ u < j * dv then 0 else ((ind (dvB f dv u) : Nat) : Int)) → K 35 [some (mR 10), some (mI dv), some (mI (j * dv : Nat))] [] (hC w (kA c 11 A)) 0 0 := by
          intro m
          induction m using Nat.strongRecOn with
          | _ m ihm =>
            intro j A hj hA
            by_cases hlt : j * dv < fN f
            · refine hK [35] _ _ _ _ _ _ ?_
              conv => whnf
              rw [hn]
              refine And.intro (dv_ok (by omega) (by omega)) ?_
              rw [tmn, hdn]
              refine And.intro (fun q => absurd q (by omega)) (fun _ => ?_)
              conv => whnf
              rw [hn]
              refine And.intro (fun q => absurd q (by omega)) (fun _ => ?_)
              refine And.intro ⟨Or.inl rfl, by omega, by omega⟩ ?_
              conv => whnf
              rw [cadd, show j * dv + dv = (j + 1) * dv by rw [Nat.succ_mul]]
              have e1 : (j + 1) * dv = j * dv + dv := Nat.succ_mul j dv
              refine And.intro (rng_nat (by omega)) ?_
              refine ihm (m - dv) (by omega) (j + 1) (mm_upd A ((j * dv : Nat) : Int) 0) (by omega) (fun u hu => ?_)
              unfold mm_upd
              by_cases e : u = j * dv
              · rw [if_pos (by omega), if_pos ⟨by rw [e]; exact Nat.mul_mod_left j dv, by omega⟩]
              · rw [if_neg (by omega), hA u hu]
                by_cases q : u % dv = 0
                · by_cases q2 : u < j * dv
                  · rw [if_pos ⟨q, q2⟩, if_pos ⟨q, by omega⟩]
                  · rw [if_neg (fun z => q2 z.2), if_neg (fun z => ?_)]
                    obtain ⟨k, hk⟩ := Nat.dvd_of_mod_eq_zero q
                    rw [Nat.mul_comm] at hk
                    have z2 := z.2
                    rw [hk] at z2 q2
                    have k1 : k < j + 1 := Nat.lt_of_mul_lt_mul_right z2
                    have k2 : ¬ k < j := fun y => q2 (Nat.mul_lt_mul_of_pos_right y (by omega))
                    have : k = j := by omega
                    exact e (by rw [hk, this])
                · rw [if_neg (fun z => q z.1), if_neg (fun z => q z.1)]
            · refine hK [25] _ _ _ _ _ _ ?_
              conv => whnf
              rw [hn]
              refine And.intro (dv_ok (by omega) (by omega)) ?_
              rw [tmn, hdn]
              refine And.intro (fun q => absurd q (by omega)) (fun _ => ?_)
              conv => whnf
              rw [hn]
              refine And.intro (fun _ => ?_) (fun q => absurd q (by omega))
              refine And.intro (rng_of (by omega) (by omega)) ?_
              refine ih (dv + 1) (by omega) (by omega) A _ (fun u hu => ?_)
              rw [hA u hu, dvB_s, hdn]
              have hb1 : Nat.ble dv 1 = false := by
                cases hz : Nat.ble dv 1 with
                | true => exact absurd (Nat.le_of_ble_eq_true hz) (by omega)
                | false => rfl
              rw [hb1]
              by_cases q : u % dv = 0
              · rw [if_pos ⟨q, by omega⟩, q]
                cases dvB f dv u <;> rfl
              · rw [if_neg (fun z => q z.1), show Nat.beq (u % dv) 0 = false from beq_f q]
                cases dvB f dv u <;> rfl
        refine hK [35] _ _ _ _ _ _ ?_
        conv => whnf
        rw [hn]
        refine And.intro (fun q => absurd q (by omega)) (fun _ => ?_)
        have h3 := inner (fN f + dv) 0 A (by omega) (fun u hu => by rw [hA u hu, if_neg (fun z => by omega)])
        rw [Nat.zero_mul] at h3
        exact h3
      · refine hK [25] _ _ _ _ _ _ ?_
        conv => whnf
        rw [hn]
        refine And.intro (fun q => absurd q (by omega)) (fun _ => ?_)
        conv => whnf
        rw [hn]
        refine And.intro (dv_ok (by omega) (by omega)) ?_
        rw [tmn]
        refine And.intro (fun _ => ?_) (fun q => absurd q (by omega))
        refine And.intro (rng_of (by omega) (by omega)) ?_
        refine ih (dv + 1) (by omega) (by omega) A _ (fun u hu => ?_)
        rw [hA u hu, dvB_s, show Nat.beq (fN f % dv) 0 = false from beq_f hdn]
        simp
  have ones : ∀ a : Nat, a ≤ fN f → ∀ (A : Int → Int) (o : Option MV), (∀ u : Nat, u < a → A (u : Int) = 1) → K 2 [some (mR 10), some (mI a), o] [] (hC w (kA c 11 A)) 0 0 := by
    refine mm_for (fN f) (fun A o hA => ?_) (fun a ha ih A o hA => ?_)
    · refine hK [25] _ _ _ _ _ _ ?_
      conv => whnf
      rw [hn]
      refine And.intro (fun _ => ?_) (fun q => absurd q (by omega))
      refine divs (fN f - 1) 2 (by omega) (by omega) A _ (fun u hu => ?_)
      rw [hA u hu]
      rfl
    · refine hK [2] _ _ _ _ _ _ ?_
      conv => whnf
      rw [hn]
      refine And.intro (fun q => absurd q (by omega)) (fun _ => ?_)
      refine And.intro ⟨Or.inr rfl, by omega, by omega⟩ ?_
      refine And.intro (rng_of (by omega) (by omega)) ?_
      refine ih (mm_upd A (a : Int) 1) _ (fun u hu => ?_)
      unfold mm_upd
      by_cases e : u = a
      · rw [if_pos (by omega)]
      · rw [if_neg (by omega)]
        exact hA u (by omega)
  refine ⟨rfl, hK [2] _ _ _ _ _ _ ?_⟩
  exact ones 0 (by omega) (c.2.1 11) _ (fun u hu => absurd hu (by omega))
theorem m_X4_findMovings (l : Launch) : mm_Met l yX4_findMovings cX4_findMovings 3 none 0 0 0 T_X4_findMovings := mm_met (E := e_X4_findMovings) (cd := kX4_findMovings) s_X4_findMovings (by decide) kX4_findMovings_ok (by decide +kernel) (by decide +kernel) (Or.inl ⟨rfl, rfl⟩) rfl (mm_eok_X4 _) (mm_calls_nil)
