/-! the component: dividing -/
theorem td_rng {x v : Int} (hx : -1000000 ≤ x ∧ x ≤ 1000000) : -1000000 ≤ x.tdiv v ∧ x.tdiv v ≤ 1000000 := by
  have h := Int.natAbs_tdiv x v
  have h2 : x.natAbs / v.natAbs ≤ x.natAbs := Nat.div_le_self _ _
  have h3 : (x.tdiv v).natAbs ≤ x.natAbs := by rw [h]; exact h2
  omega
def T_X9_divide : Tr := fun av h N _ => ∃ (M : List ME) (c : CS) (a : AS) (p i v : Int), av = [mR 0, mI p, mI i, mI v] ∧ h = hC (none, M) c ∧ CR a c ∧ ∀ c' : CS, CR (xDivide a p i v).1 c' → N (some (mI (xDivide a p i v).2)) (hC (none, M) c')
abbrev e_X9_divide : NE := (ftX9, [(102, (2, 0, 0, false, (0, 9), T_X9_isPlace)), (141, (2, 0, 0, false, (0, 4), T_X4_terms))], ltX9, [], [], false, 1, (0, 0), [], [], [], true)
theorem s_X9_divide : mm_Spec e_X9_divide kX9_divide 7 T_X9_divide := by
  rintro N X K av h hK ⟨M, c, a, p, i, v, rfl, rfl, hc, h2⟩
  have hG := hc.2.1.2
  have hb := fbase hc.1.1
  have bad : ¬ (okP p ∧ okP i ∧ v ≠ 0 ∧ ∀ t, t < fD (aF a) → (aP a i.toNat t).tmod v = 0) → N (some (mI (-1))) (hC (none, M) c) := fun q => by
    rw [show xDivide a p i v = (a, -1) from if_neg q] at h2
    exact h2 c hc
  refine ⟨rfl, hK [33] _ _ _ _ _ _ ?_⟩
  refine ⟨p, rfl, ?_⟩
  refine And.intro (fun q => bad (fun w => bi_c0 q w.1)) (fun q => ?_)
  have qp := bi_c1 q
  refine ⟨i, rfl, ?_⟩
  refine And.intro (fun q => bad (fun w => bi_c0 q w.2.1)) (fun q => ?_)
  have qi := bi_c1 q
  refine And.intro (fun qv => ?_) (fun q => bad (fun w => w.2.2.1 (by omega)))
  obtain ⟨p, rfl⟩ := Int.eq_ofNat_of_zero_le qp.1
  obtain ⟨i, rfl⟩ := Int.eq_ofNat_of_zero_le qi.1
  have hi8 : i < 8 := by omega
  have hp8 : p < 8 := by omega
  have hrow : ∀ t : Nat, t < fD (aF a) → c.2.2.2.1 (0 + i) (t : Int) = aP a i t := fun t ht => by rw [Nat.zero_add]; exact hc.2.2.2.1 i t hi8 ht
  have hbd : ∀ t, t < fD (aF a) → -1000000 ≤ aP a i t ∧ aP a i t ≤ 1000000 := fun t ht => hc.1.2.1 i t hi8 ht
  have loop2 : (∀ t, t < fD (aF a) → (aP a i t).tmod v = 0) → ∀ (k t : Nat) (b : Int → Int), t + k = fD (aF a) → (∀ s : Nat, s < fD (aF a) → b (s : Int) = if s < t then (aP a i s).tdiv v else c.2.2.2.1 (0 + p) (s : Int)) → K 74 [some (mR 0), some (mI (p : Int)), some (mI (i : Int)), some (mI v), some (mQ (0 + i)), some (mQ (0 + p)), some (mI (t : Int))] [] (hC (none, M) (kR c (mm_updR c.2.2.2.1 (0 + p) b))) 0 0 := by
    intro hm k
    have ex : xDivide a p i v = (aSetP a p (fun t => (aP a i t).tdiv v), (nzc (vL (fun t => (aP a i t).tdiv v)) (fD (aF a)) : Int)) := if_pos ⟨qp, qi, qv, hm⟩
    induction k with
    | zero =>
      intro t b ht hbb
      refine hK [74] _ _ _ _ _ _ ?_
      conv => whnf
      rw [show (kR c (mm_updR c.2.2.2.1 (0 + p) b)).1 7 = (fD (aF a) : Nat) from hG.2.2.1]
      refine And.intro (fun _ => ?_) (fun q => absurd q (by omega))
      have hr2 : ∀ s : Nat, s < fD (aF a) → (kR c (mm_updR c.2.2.2.1 (0 + p) b)).2.2.2.1 (0 + p) (s : Int) = (aP a i s).tdiv v := fun s hs => by
        show mm_updR c.2.2.2.1 (0 + p) b (0 + p) (s : Int) = _
        unfold mm_updR
        rw [if_pos rfl, hbb s hs, if_pos (by omega)]
      refine ⟨(none, M), _, aF a, 0 + p, rfl, rfl, hG, by omega, fun s hs => by rw [hr2 s hs]; exact td_rng (hbd s hs), ?_⟩
      rw [nzc_congr (V' := vL (fun t => (aP a i t).tdiv v)) (fD (aF a)) (fun s hs => by
        unfold rowV
        rw [hr2 s hs])]
      rw [ex] at h2
      rw [← Nat.zero_add p] at h2
      exact h2 _ (CR_P (G := c.2.2.1 12) hc (p := 0 + p) (by omega) (fun s hs => td_rng (hbd s hs)) (fun s hs => by rw [hbb s hs, if_pos (by omega)]))
    | succ k ih =>
      intro t b ht hbb
      refine hK [74] _ _ _ _ _ _ ?_
      conv => whnf
      rw [show (kR c (mm_updR c.2.2.2.1 (0 + p) b)).1 7 = (fD (aF a) : Nat) from hG.2.2.1]
      refine And.intro (fun q => absurd q (by omega)) (fun _ => ?_)
      have := hbd t (by omega)
      have h3 := td_rng (v := v) this
      refine And.intro ⟨by show 0 + i < 24; omega, by omega, by omega⟩ ?_
      have hsrc : mm_updR c.2.2.2.1 (0 + p) b (0 + i) (t : Int) = aP a i t := by
        unfold mm_updR
        by_cases w : 0 + i = 0 + p
        · rw [if_pos w, hbb t (by omega), if_neg (by omega), ← w, hrow t (by omega)]
        · rw [if_neg w, hrow t (by omega)]
      conv => whnf
      rw [show (hC (none, M) (kR c (mm_updR c.2.2.2.1 (0 + p) b))).2.2.2.2 (0 + i) (t : Int) = aP a i t from hsrc]
      refine And.intro ⟨qv, rng_of (by omega) (by omega)⟩ ?_
      refine And.intro ⟨by show 0 + p < 24; omega, by omega, by omega⟩ ?_
      refine And.intro (rng_of (by omega) (by omega)) ?_
      have h4 := ih (t + 1) (mm_upd b (t : Int) ((aP a i t).tdiv v)) (by omega) (fun s hs => by
        unfold mm_upd
        by_cases w : s = t
        · rw [if_pos (by omega), if_pos (by omega), w]
        · rw [if_neg (by omega), hbb s hs]
          by_cases w2 : s < t
          · rw [if_pos w2, if_pos (by omega)]
          · rw [if_neg w2, if_neg (by omega)])
      have e : mm_updR (mm_updR c.2.2.2.1 (0 + p) b) (0 + p) (mm_upd (mm_updR c.2.2.2.1 (0 + p) b (0 + p)) (t : Int) ((aP a i t).tdiv v)) = mm_updR c.2.2.2.1 (0 + p) (mm_upd b (t : Int) ((aP a i t).tdiv v)) := by rw [updR_upd, updR_at]
      rw [← e] at h4
      exact h4
  have loop1 : ∀ (k t : Nat), t + k = fD (aF a) → (∀ s, s < t → (aP a i s).tmod v = 0) → K 33 [some (mR 0), some (mI (p : Int)), some (mI (i : Int)), some (mI v), some (mQ (0 + i)), some (mI (t : Int)), none] [] (hC (none, M) c) 0 0 := by
    intro k
    induction k with
    | zero =>
      intro t ht hm
      refine hK [74] _ _ _ _ _ _ ?_
      conv => whnf
      rw [hG.2.2.1]
      refine And.intro (fun _ => ?_) (fun q => absurd q (by omega))
      refine And.intro (by omega) ?_
      have e : kR c (mm_updR c.2.2.2.1 (0 + p) (c.2.2.2.1 (0 + p))) = c := by
        rw [show mm_updR c.2.2.2.1 (0 + p) (c.2.2.2.1 (0 + p)) = c.2.2.2.1 from by
          funext j
          unfold mm_updR
          split
          · rename_i w; rw [w]
          · rfl]
        rfl
      have k2 := loop2 (fun s hs => hm s (by omega)) (fD (aF a)) 0 (c.2.2.2.1 (0 + p)) (by omega) (fun s hs => by rw [if_neg (by omega)])
      rw [e] at k2
      exact k2
    | succ k ih =>
      intro t ht hm
      refine hK [33] _ _ _ _ _ _ ?_
      conv => whnf
      rw [hG.2.2.1]
      refine And.intro (fun q => absurd q (by omega)) (fun _ => ?_)
      have := hbd t (by omega)
      have h3 := td_rng (v := v) this
      refine And.intro ⟨by show 0 + i < 24; omega, by omega, by omega⟩ ?_
      conv => whnf
      rw [show (hC (none, M) c).2.2.2.2 (0 + i) (t : Int) = aP a i t from hrow t (by omega)]
      refine And.intro ⟨qv, rng_of (by omega) (by omega)⟩ ?_
      refine And.intro (fun w => ?_) (fun w => bad (fun u => w (u.2.2.2 t (by omega))))
      refine And.intro (rng_of (by omega) (by omega)) ?_
      refine ih (t + 1) (by omega) (fun s hs => ?_)
      by_cases e : s = t
      · rw [e]; exact w
      · exact hm s (by omega)
  refine And.intro (by omega) ?_
  exact loop1 (fD (aF a)) 0 (by omega) (fun s hs => by omega)
theorem m_X9_divide (l : Launch) : mm_Met l yX9_divide cX9_divide 7 (some .int) 1 0 0 T_X9_divide := mm_met (E := e_X9_divide) (cd := kX9_divide) s_X9_divide (by decide) kX9_divide_ok (by decide +kernel) (by decide +kernel) (Or.inr (Or.inl ⟨rfl, rfl⟩)) rfl (mm_eok_X9 _) (mm_calls_cons (mm_cbv wi_X9_isPlace (tb2 (i := 212) rfl rfl) (m_X9_isPlace l) (by decide) (by decide) rfl) (mm_calls_cons (mm_cbv wi_X4_terms (tb3 (i := 83) rfl rfl) (m_X4_terms l) (by decide) (by decide) rfl) (mm_calls_nil)))
