/-! the component's ring: values taken and asked -/
theorem rowV_0 {f : Nat} {c : CS} {r t : Nat} (h : rsm f c r) (ht : t < fD f) : rowV c r t = 0 ↔ c.2.2.2.1 r (t : Int) = 0 := by
  have hb := h t ht
  constructor
  · intro e
    have := congrArg Int64.toInt e
    rw [show rowV c r t = Int64.ofInt (c.2.2.2.1 r (t : Int)) from rfl, l_of (rng_of (by omega) (by omega))] at this
    exact this
  · intro e
    show Int64.ofInt (c.2.2.2.1 r (t : Int)) = 0
    rw [e]
    rfl
theorem lcM : ((1000000 : Int64)).toInt = 1000000 := by decide
theorem lcMm : ((-1000000 : Int64)).toInt = -1000000 := by decide
def T_X4_take : Tr := fun av h N _ => ∃ (w : CW) (c : CS) (f r : Nat), av = [mR 10, mQ r] ∧ h = hC w c ∧ CG f c ∧ r < 24 ∧ ∀ (G : Int → Int64) (b : Int → Int), (∀ t : Nat, t < fD f → G (t : Int) = gV f (c.2.2.1 12) t) → (small f (gV f (c.2.2.1 12)) → ∀ t : Nat, t < fD f → b (t : Int) = (gV f (c.2.2.1 12) t).toInt) → (¬ small f (gV f (c.2.2.1 12)) → b = c.2.2.2.1 r) → N (some (mI (bi (small f (gV f (c.2.2.1 12)))))) (hC w (kR (kL c 12 G) (mm_updR c.2.2.2.1 r b)))
abbrev e_X4_take : NE := (ftX4, [(66, (1, 0, 0, false, (0, 4), T_X4_reduce))], ltX4, [], [], false, 2, (0, 0), [], [], [], true)
set_option maxHeartbeats 4000000 in
theorem s_X4_take : mm_Spec e_X4_take kX4_take 3 T_X4_take := by
  rintro N X K av h hK ⟨w, c, f, r, rfl, rfl, hG, hr, h2⟩
  have hb := halfb hG.1
  have hd220 : fD f ≤ 220 := (fbase hG.1).2.2.2.2.2.2.2.2.2.2.1
  have hd : ∀ G : Int → Int64, (kL c 12 G).1 7 = (fD f : Int) := fun _ => hG.2.2.1
  have hdr : ∀ (G : Int → Int64) (R : Nat → Int → Int), (kR (kL c 12 G) R).1 7 = (fD f : Int) := fun _ _ => hG.2.2.1
  have main : ∀ G : Int → Int64, (∀ t : Nat, t < fD f → G (t : Int) = gV f (c.2.2.1 12) t) → K 4 [some (mR 10), some (mQ r), none] [] (hC w (kL c 12 G)) 0 0 := by
    intro G hg
    have copy : small f (gV f (c.2.2.1 12)) → ∀ i : Nat, i ≤ fD f → ∀ b : Int → Int, (∀ t : Nat, t < i → b (t : Int) = (gV f (c.2.2.1 12) t).toInt) → K 50 [some (mR 10), some (mQ r), some (mI i)] [] (hC w (kR (kL c 12 G) (mm_updR c.2.2.2.1 r b))) 0 0 := by
      intro hsm
      refine mm_for (fD f) (fun b hbb => ?_) (fun i hi ih b hbb => ?_)
      · have h3 := h2 G b hg (fun _ => hbb) (fun z => absurd hsm z)
        rw [bi_t hsm] at h3
        refine hK [] _ _ _ _ _ _ ?_
        conv => whnf
        rw [hdr]
        refine And.intro (fun _ => ?_) (fun q => absurd q (by omega))
        exact And.intro (Or.inr rfl) h3
      · have hs := hsm i hi
        refine hK [50] _ _ _ _ _ _ ?_
        conv => whnf
        rw [hdr]
        refine And.intro (fun q => absurd q (by omega)) (fun _ => ?_)
        refine And.intro (by omega) ?_
        conv => whnf
        rw [show (kR (kL c 12 G) (mm_updR c.2.2.2.1 r b)).2.2.1 12 (i : Int) = _ from hg i hi]
        refine And.intro (rng_of (by omega) (by omega)) ?_
        refine And.intro ⟨hr, by omega, by omega⟩ ?_
        refine And.intro (rng_of (by omega) (by omega)) ?_
        have h3 := ih (mm_upd b (i : Int) (gV f (c.2.2.1 12) i).toInt) (fun t ht => by
          unfold mm_upd
          by_cases q : t = i
          · rw [if_pos (by omega), q]
          · rw [if_neg (by omega)]
            exact hbb t (by omega))
        have e : mm_updR (mm_updR c.2.2.2.1 r b) r (mm_upd (mm_updR c.2.2.2.1 r b r) (i : Int) (gV f (c.2.2.1 12) i).toInt) = mm_updR c.2.2.2.1 r (mm_upd b (i : Int) (gV f (c.2.2.1 12) i).toInt) := by rw [updR_upd, updR_at]
        rw [← e] at h3
        exact h3
    have test : ∀ i : Nat, i ≤ fD f → (∀ t, t < i → -1000000 ≤ (gV f (c.2.2.1 12) t).toInt ∧ (gV f (c.2.2.1 12) t).toInt ≤ 1000000) → K 6 [some (mR 10), some (mQ r), some (mI i)] [] (hC w (kL c 12 G)) 0 0 := by
      refine mm_for (fD f) (fun hs => ?_) (fun i hi ih hs => ?_)
      · refine hK [50] _ _ _ _ _ _ ?_
        conv => whnf
        rw [hd]
        refine And.intro (fun _ => ?_) (fun q => absurd q (by omega))
        have h3 := copy hs 0 (by omega) (c.2.2.2.1 r) (fun t ht => absurd ht (by omega))
        rw [updR_self] at h3
        exact h3
      · have hgi : (kL c 12 G).2.2.1 12 (i : Int) = gV f (c.2.2.1 12) i := hg i hi
        have no : ¬ (-1000000 ≤ (gV f (c.2.2.1 12) i).toInt ∧ (gV f (c.2.2.1 12) i).toInt ≤ 1000000) → K 40 [some (mR 10), some (mQ r), some (mI i)] [] (hC w (kL c 12 G)) 0 0 := by
          intro z
          have hns : ¬ small f (gV f (c.2.2.1 12)) := fun y => z (y i hi)
          have h3 := h2 G (c.2.2.2.1 r) hg (fun y => absurd y hns) (fun _ => rfl)
          rw [bi_f hns, updR_self] at h3
          refine hK [] _ _ _ _ _ _ ?_
          exact And.intro (Or.inl rfl) h3
        have l1 := cmp_lt (gV f (c.2.2.1 12) i) (-1000000)
        have l2 := cmp_le (gV f (c.2.2.1 12) i) 1000000
        rw [lcMm] at l1
        rw [lcM] at l2
        refine hK [6, 40] _ _ _ _ _ _ ?_
        conv => whnf
        rw [hd]
        refine And.intro (fun q => absurd q (by omega)) (fun _ => ?_)
        refine And.intro (by omega) ?_
        conv => whnf
        rw [hgi]
        refine And.intro (fun q => ?_) (fun q => ?_)
        · exact no (fun z => by have := l1.mp q; omega)
        · have q : ¬ (gV f (c.2.2.1 12) i).toInt < -1000000 := fun z => absurd (l1.mpr z) (Int.not_lt.mpr q)
          refine And.intro (by omega) ?_
          conv => whnf
          rw [hgi]
          refine And.intro (fun q2 => ?_) (fun q2 => ?_)
          · have q2 := l2.mp q2
            refine And.intro (rng_of (by omega) (by omega)) ?_
            refine ih (fun t ht => ?_)
            by_cases e : t = i
            · rw [e]; omega
            · exact hs t (by omega)
          · exact no (fun z => absurd (l2.mpr z.2) (Int.not_le.mpr q2))
    refine hK [6] _ _ _ _ _ _ ?_
    exact test 0 (by omega) (fun t ht => absurd ht (by omega))
  refine ⟨rfl, hK [4] _ _ _ _ _ _ ?_⟩
  exact ⟨w, c, f, rfl, rfl, hG, fun G hg => main G hg⟩
theorem m_X4_take (l : Launch) : mm_Met l yX4_take cX4_take 3 (some .boolean) 1 0 0 T_X4_take := mm_met (E := e_X4_take) (cd := kX4_take) s_X4_take (by decide) kX4_take_ok (by decide +kernel) (by decide +kernel) (Or.inr (Or.inr (Or.inl ⟨rfl, rfl⟩))) rfl (mm_eok_X4 _) (mm_calls_cons (mm_cbv wi_X4_reduce (tb3 (i := 77) rfl rfl) (m_X4_reduce l) (by decide) (by decide) rfl) (mm_calls_nil))
def T_X4_terms : Tr := fun av h N _ => ∃ (w : CW) (c : CS) (f r : Nat), av = [mR 10, mQ r] ∧ h = hC w c ∧ CG f c ∧ r < 24 ∧ rsm f c r ∧ N (some (mI (nzc (rowV c r) (fD f) : Nat))) h
abbrev e_X4_terms : NE := (ftX4, [], ltX4, [], [], false, 1, (0, 0), [], [], [], true)
theorem s_X4_terms : mm_Spec e_X4_terms kX4_terms 4 T_X4_terms := by
  rintro N X K av h hK ⟨w, c, f, r, rfl, rfl, hG, hr, hsm, h2⟩
  have hd220 : fD f ≤ 220 := (fbase hG.1).2.2.2.2.2.2.2.2.2.2.1
  have loop : ∀ i : Nat, i ≤ fD f → K 4 [some (mR 10), some (mQ r), some (mI (nzc (rowV c r) i : Nat)), some (mI i)] [] (hC w c) 0 0 := by
    refine mm_for (fD f) ?_ (fun i hi ih => ?_)
    · refine hK [] _ _ _ _ _ _ ?_
      conv => whnf
      rw [hG.2.2.1]
      refine And.intro (fun _ => ?_) (fun q => absurd q (by omega))
      exact h2
    · have hn := nzc_le (rowV c r) i
      have step : nzc (rowV c r) (i + 1) = nzc (rowV c r) i + (if rowV c r i = 0 then 0 else 1) := rfl
      refine hK [4] _ _ _ _ _ _ ?_
      conv => whnf
      rw [hG.2.2.1]
      refine And.intro (fun q => absurd q (by omega)) (fun _ => ?_)
      refine And.intro ⟨hr, by omega, by omega⟩ ?_
      refine And.intro (fun q => ?_) (fun q => ?_)
      · rw [if_pos ((rowV_0 hsm hi).mpr q), Nat.add_zero] at step
        rw [step] at ih
        refine And.intro (rng_of (by omega) (by omega)) ?_
        exact ih
      · rw [if_neg (fun z => q ((rowV_0 hsm hi).mp z))] at step
        rw [step] at ih
        refine And.intro (rng_of (by omega) (by omega)) ?_
        refine And.intro (rng_of (by omega) (by omega)) ?_
        exact ih
  refine ⟨rfl, hK [4] _ _ _ _ _ _ ?_⟩
  exact loop 0 (by omega)
theorem m_X4_terms (l : Launch) : mm_Met l yX4_terms cX4_terms 4 (some .int) 0 0 0 T_X4_terms := mm_met (E := e_X4_terms) (cd := kX4_terms) s_X4_terms (by decide) kX4_terms_ok (by decide +kernel) (by decide +kernel) (Or.inr (Or.inl ⟨rfl, rfl⟩)) rfl (mm_eok_X4 _) (mm_calls_nil)
theorem nzc_pos {V : Nat → Int64} : ∀ (n t : Nat), t < n → V t ≠ 0 → 1 ≤ nzc V n
  | 0, t, h, _ => absurd h (by omega)
  | n + 1, t, h, hv => by
    unfold nzc
    by_cases q : t = n
    · subst q
      rw [if_neg hv]
      omega
    · have := nzc_pos n t (by omega) hv
      omega
theorem nzc_0 {V : Nat → Int64} : ∀ n, (∀ t, t < n → 1 ≤ t → V t = 0) → nzc V n = if V 0 = 0 ∨ n = 0 then 0 else 1
  | 0, _ => by rw [if_pos (Or.inr rfl)]; rfl
  | n + 1, h => by
    have ih := nzc_0 n (fun t ht h1 => h t (by omega) h1)
    unfold nzc
    rw [ih]
    cases n with
    | zero =>
      rw [if_pos (Or.inr rfl)]
      by_cases q : V 0 = 0
      · rw [if_pos q, if_pos (Or.inl q)]
      · rw [if_neg q, if_neg (fun z => z.elim q (by omega))]
    | succ n =>
      rw [if_pos (h (n + 1) (by omega) (by omega))]
      by_cases q : V 0 = 0
      · rw [if_pos (Or.inl q), if_pos (Or.inl q)]
      · rw [if_neg (fun z => z.elim q (by omega)), if_neg (fun z => z.elim q (by omega))]
theorem nzc_more {V : Nat → Int64} : ∀ n, nzc V n ≤ (if V 0 = 0 then 0 else 1) → ∀ t, t < n → 1 ≤ t → V t = 0
  | 0, _, t, h, _ => absurd h (by omega)
  | n + 1, h, t, ht, h1 => by
    have hu : nzc V (n + 1) = nzc V n + (if V n = 0 then 0 else 1) := rfl
    rw [hu] at h
    by_cases q : t = n
    · subst q
      by_cases z : V t = 0
      · exact z
      · rw [if_neg z] at h
        by_cases y : V 0 = 0
        · rw [if_pos y] at h; omega
        · rw [if_neg y] at h
          have := nzc_pos (V := V) t 0 (by omega) y
          omega
    · exact nzc_more n (by split at h <;> omega) t (by omega) h1
def T_X4_isWhole : Tr := fun av h N _ => ∃ (w : CW) (c : CS) (f r : Nat), av = [mR 10, mQ r] ∧ h = hC w c ∧ CG f c ∧ r < 24 ∧ rsm f c r ∧ N (some (mI (bi (∀ t, t < fD f → 1 ≤ t → rowV c r t = 0)))) h
abbrev e_X4_isWhole : NE := (ftX4, [(73, (2, 0, 0, false, (0, 4), T_X4_terms))], ltX4, [], [], false, 2, (0, 0), [], [], [], true)
theorem s_X4_isWhole : mm_Spec e_X4_isWhole kX4_isWhole 2 T_X4_isWhole := by
  rintro N X K av h hK ⟨w, c, f, r, rfl, rfl, hG, hr, hsm, h2⟩
  have hb := halfb hG.1
  have hle := nzc_le (rowV c r) (fD f)
  have hm := nzc_more (V := rowV c r) (fD f)
  have h0 := nzc_0 (V := rowV c r) (fD f)
  have hr0 := rowV_0 (t := 0) hsm (by omega)
  have fin : ∀ v : Nat, v = (if rowV c r 0 = 0 then 0 else 1) → K 16 [some (mR 10), some (mQ r)] [mI (v : Int), mI (nzc (rowV c r) (fD f) : Nat)] (hC w c) 0 0 := by
    intro v hv
    refine hK [] _ _ _ _ _ _ ?_
    refine And.intro (fun q => ?_) (fun q => ?_)
    · rw [bi_f (fun z => ?_)] at h2
      · exact And.intro (Or.inl rfl) h2
      · have h3 := h0 z
        by_cases y : rowV c r 0 = 0
        · rw [if_pos (Or.inl y)] at h3
          rw [if_pos y] at hv
          omega
        · rw [if_neg (fun x => x.elim y (by omega))] at h3
          rw [if_neg y] at hv
          omega
    · rw [bi_t (hm (by rw [← hv]; omega))] at h2
      exact And.intro (Or.inr rfl) h2
  refine ⟨rfl, hK [16] _ _ _ _ _ _ ?_⟩
  refine ⟨w, c, f, r, rfl, rfl, hG, hr, hsm, ?_⟩
  refine And.intro ⟨hr, by omega, by omega⟩ ?_
  refine And.intro (fun q => ?_) (fun q => ?_)
  · exact fin 1 (by rw [if_neg (fun z => q (hr0.mp z))])
  · exact fin 0 (by rw [if_pos (hr0.mpr q)])
theorem m_X4_isWhole (l : Launch) : mm_Met l yX4_isWhole cX4_isWhole 2 (some .boolean) 1 0 0 T_X4_isWhole := mm_met (E := e_X4_isWhole) (cd := kX4_isWhole) s_X4_isWhole (by decide) kX4_isWhole_ok (by decide +kernel) (by decide +kernel) (Or.inr (Or.inr (Or.inl ⟨rfl, rfl⟩))) rfl (mm_eok_X4 _) (mm_calls_cons (mm_cbv wi_X4_terms (tb4 (i := 183) rfl rfl) (m_X4_terms l) (by decide) (by decide) rfl) (mm_calls_nil))
def T_X4_alikeValues : Tr := fun av h N _ => ∃ (w : CW) (c : CS) (f r s : Nat), av = [mR 10, mQ r, mQ s] ∧ h = hC w c ∧ CG f c ∧ r < 24 ∧ s < 24 ∧ N (some (mI (bi (∀ t : Nat, t < fD f → c.2.2.2.1 r (t : Int) = c.2.2.2.1 s (t : Int))))) h
abbrev e_X4_alikeValues : NE := (ftX4, [], ltX4, [], [], false, 2, (0, 0), [], [], [], true)
theorem s_X4_alikeValues : mm_Spec e_X4_alikeValues kX4_alikeValues 4 T_X4_alikeValues := by
  rintro N X K av h hK ⟨w, c, f, r, s, rfl, rfl, hG, hr, hs, h2⟩
  have hd220 : fD f ≤ 220 := (fbase hG.1).2.2.2.2.2.2.2.2.2.2.1
  have loop : ∀ i : Nat, i ≤ fD f → (∀ t : Nat, t < i → c.2.2.2.1 r (t : Int) = c.2.2.2.1 s (t : Int)) → K 2 [some (mR 10), some (mQ r), some (mQ s), some (mI i)] [] (hC w c) 0 0 := by
    refine mm_for (fD f) (fun ha => ?_) (fun i hi ih ha => ?_)
    · rw [bi_t ha] at h2
      refine hK [] _ _ _ _ _ _ ?_
      conv => whnf
      rw [hG.2.2.1]
      refine And.intro (fun _ => ?_) (fun q => absurd q (by omega))
      exact And.intro (Or.inr rfl) h2
    · refine hK [2] _ _ _ _ _ _ ?_
      conv => whnf
      rw [hG.2.2.1]
      refine And.intro (fun q => absurd q (by omega)) (fun _ => ?_)
      refine And.intro ⟨hr, by omega, by omega⟩ ?_
      refine And.intro ⟨hs, by omega, by omega⟩ ?_
      refine And.intro (fun q => ?_) (fun q => ?_)
      · refine And.intro (rng_of (by omega) (by omega)) ?_
        refine ih (fun t ht => ?_)
        by_cases e : t = i
        · rw [e]; exact q
        · exact ha t (by omega)
      · rw [bi_f (fun z => q (z i hi))] at h2
        exact And.intro (Or.inl rfl) h2
  refine ⟨rfl, hK [2] _ _ _ _ _ _ ?_⟩
  exact loop 0 (by omega) (fun t ht => absurd ht (by omega))
theorem m_X4_alikeValues (l : Launch) : mm_Met l yX4_alikeValues cX4_alikeValues 4 (some .boolean) 0 0 0 T_X4_alikeValues := mm_met (E := e_X4_alikeValues) (cd := kX4_alikeValues) s_X4_alikeValues (by decide) kX4_alikeValues_ok (by decide +kernel) (by decide +kernel) (Or.inr (Or.inr (Or.inl ⟨rfl, rfl⟩))) rfl (mm_eok_X4 _) (mm_calls_nil)
def T_X4_staysWhenMoved : Tr := fun av h N _ => ∃ (w : CW) (c : CS) (f r a : Nat), av = [mR 10, mQ r, mI a] ∧ h = hC w c ∧ CG f c ∧ r < 24 ∧ a ≤ 506 ∧ ∀ G : Int → Int64, N (some (mI (bi (sameV f (mvV f (rowV c r) a) (rowV c r))))) (hC w (kL c 12 G))
abbrev e_X4_staysWhenMoved : NE := (ftX4, [(77, (3, 0, 0, false, (0, 4), T_X4_move)), (66, (1, 0, 0, false, (0, 4), T_X4_reduce))], ltX4, [], [], false, 2, (0, 0), [], [], [], true)
theorem s_X4_staysWhenMoved : mm_Spec e_X4_staysWhenMoved kX4_staysWhenMoved 4 T_X4_staysWhenMoved := by
  rintro N X K av h hK ⟨w, c, f, r, a, rfl, rfl, hG, hr, ha, h2⟩
  have hb := halfb hG.1
  have hd220 : fD f ≤ 220 := (fbase hG.1).2.2.2.2.2.2.2.2.2.2.1
  have hd : ∀ G : Int → Int64, (kL c 12 G).1 7 = (fD f : Int) := fun _ => hG.2.2.1
  have loop : ∀ G : Int → Int64, (∀ t : Nat, t < fD f → G (t : Int) = mvV f (rowV c r) a t) → ∀ i : Nat, i ≤ fD f → (∀ t : Nat, t < i → mvV f (rowV c r) a t = rowV c r t) → K 12 [some (mR 10), some (mQ r), some (mI a), some (mI i)] [] (hC w (kL c 12 G)) 0 0 := by
    intro G hg
    have h2 := h2 G
    refine mm_for (fD f) (fun hs => ?_) (fun i hi ih hs => ?_)
    · rw [bi_t hs] at h2
      refine hK [] _ _ _ _ _ _ ?_
      conv => whnf
      rw [hd]
      refine And.intro (fun _ => ?_) (fun q => absurd q (by omega))
      exact And.intro (Or.inr rfl) h2
    · refine hK [12] _ _ _ _ _ _ ?_
      conv => whnf
      rw [hd]
      refine And.intro (fun q => absurd q (by omega)) (fun _ => ?_)
      refine And.intro (by omega) ?_
      refine And.intro ⟨hr, by omega, by omega⟩ ?_
      conv => whnf
      rw [show (kL c 12 G).2.2.1 12 (i : Int) = _ from hg i hi]
      have ce := cmp_eq (mvV f (rowV c r) a i) (rowV c r i)
      refine And.intro (fun q => ?_) (fun q => ?_)
      · have q := ce.mp q
        refine And.intro (rng_of (by omega) (by omega)) ?_
        refine ih (fun t ht => ?_)
        by_cases e : t = i
        · rw [e]; exact q
        · exact hs t (by omega)
      · have q : ¬ mvV f (rowV c r) a i = rowV c r i := fun z => q (ce.mpr z)
        rw [bi_f (fun z => q (z i hi))] at h2
        exact And.intro (Or.inl rfl) h2
  refine ⟨rfl, hK [12] _ _ _ _ _ _ ?_⟩
  refine ⟨w, c, f, r, a, rfl, rfl, hG, hr, ha, fun G hg => ?_⟩
  refine ⟨w, kL c 12 G, f, rfl, rfl, hG, fun G2 hg2 => ?_⟩
  rw [kL_kL]
  exact loop G2 (fun t ht => by rw [hg2 t ht, kL_at, hg t ht]) 0 (by omega) (fun t ht => absurd ht (by omega))
theorem m_X4_staysWhenMoved (l : Launch) : mm_Met l yX4_staysWhenMoved cX4_staysWhenMoved 4 (some .boolean) 3 0 0 T_X4_staysWhenMoved := mm_met (E := e_X4_staysWhenMoved) (cd := kX4_staysWhenMoved) s_X4_staysWhenMoved (by decide) kX4_staysWhenMoved_ok (by decide +kernel) (by decide +kernel) (Or.inr (Or.inr (Or.inl ⟨rfl, rfl⟩))) rfl (mm_eok_X4 _) (mm_calls_cons (mm_cbv wi_X4_move (tb4 (i := 188) rfl rfl) (m_X4_move l) (by decide) (by decide) rfl) (mm_calls_cons (mm_cbv wi_X4_reduce (tb3 (i := 77) rfl rfl) (m_X4_reduce l) (by decide) (by decide) rfl) (mm_calls_nil)))
