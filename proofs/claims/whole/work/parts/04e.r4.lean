/-! the reference: the modulus, powers, orders, traces, quotients -/
def T_X10_isPrime : Tr := fun av h N _ => ∃ (w : FW) (s : RS) (p k q its : Nat), av = [mR 1000, mI its] ∧ h = hR w s ∧ s.1 2 = p ∧ s.1 3 = k ∧ s.1 4 = q ∧ 2 ≤ p ∧ p ≤ 23 ∧ 1 ≤ k ∧ k ≤ 4 ∧ 1 ≤ q ∧ q ≤ 27 ∧ its < 27 ∧ ∀ L : Int → Int, N (some (mI (bi (rprime p k q its = true)))) (hR w (sA s 13 L))
abbrev e_X10_isPrime : NE := (ftX10, [(122, (4, 0, 0, false, (0, 10), T_X10_multiplyBy))], ltX10, [], [], false, 2, (0, 0), [], [], [], false)
theorem s_X10_isPrime : mm_Spec e_X10_isPrime kX10_isPrime 4 T_X10_isPrime := by
  rintro N X K av h hK ⟨w, s, p, k, q, its, rfl, rfl, hp, hk, hq, hp2, hp23, hk1, hk4, hq1, hq27, hits, h2⟩
  have hno : ∀ x y : Nat, 1 ≤ x → x < q → 1 ≤ y → y < q → rmul p k x y its = 0 → bi (rprime p k q its = true) = 0 := by
    intro x y hx hxq hy hyq hz
    refine bi_f (fun hr => ?_)
    have h1 := List.all_eq_true.mp (List.all_eq_true.mp hr x (List.mem_range.mpr hxq)) y (List.mem_range.mpr hyq)
    rw [hz, Bool.or_eq_true, Bool.or_eq_true] at h1
    rcases h1 with h1 | h1 | h1
    · have := Nat.eq_of_beq_eq_true h1; omega
    · have := Nat.eq_of_beq_eq_true h1; omega
    · cases h1
  have loopX : ∀ x, x ≤ q → 1 ≤ x → ∀ (a : Int → Int) (o : Option MV), (∀ x2 y2 : Nat, 1 ≤ x2 → x2 < x → 1 ≤ y2 → y2 < q → rmul p k x2 y2 its ≠ 0) → K 2 [some (mR 1000), some (mI its), some (mI x), o] [] (hR w (sA s 13 a)) 0 0 := by
    refine mm_for q (fun hx1 a o hall => ?_) (fun x hx ih hx1 a o hall => ?_)
    · refine hK [2] _ _ _ _ _ _ ?_
      conv => whnf
      rw [show (sA s 13 a).1 4 = (q : Int) from hq]
      refine And.intro (fun _ => ?_) (fun z => absurd z (by omega))
      have hb : bi (rprime p k q its = true) = 1 := by
        refine bi_t (List.all_eq_true.mpr (fun x hx => List.all_eq_true.mpr (fun y hy => ?_)))
        have hxq := List.mem_range.mp hx
        have hyq := List.mem_range.mp hy
        rcases Nat.eq_zero_or_pos x with rfl | hx0
        · rfl
        · rcases Nat.eq_zero_or_pos y with rfl | hy0
          · simp
          · have := hall x y hx0 hxq hy0 hyq
            rw [Bool.or_eq_true, Bool.or_eq_true]
            right
            right
            cases hz : Nat.beq (rmul p k x y its) 0 with
            | true => exact absurd (Nat.eq_of_beq_eq_true hz) this
            | false => rfl
      rw [hb] at h2
      exact And.intro (Or.inr rfl) (h2 a)
    · have loopY : ∀ y, y ≤ q → 1 ≤ y → ∀ (a : Int → Int), (∀ y2 : Nat, 1 ≤ y2 → y2 < y → rmul p k x y2 its ≠ 0) → K 12 [some (mR 1000), some (mI its), some (mI x), some (mI y)] [] (hR w (sA s 13 a)) 0 0 := by
        refine mm_for q (fun hy1 a hy2 => ?_) (fun y hy ihy hy1 a hy2 => ?_)
        · refine hK [2, 12] _ _ _ _ _ _ ?_
          conv => whnf
          rw [show (sA s 13 a).1 4 = (q : Int) from hq]
          refine And.intro (fun _ => ?_) (fun z => absurd z (by omega))
          refine And.intro (rng_of (by omega) (by omega)) ?_
          refine ih (by omega) a _ (fun x2 y2 q1 q2 q3 q4 => ?_)
          by_cases e : x2 = x
          · subst e; exact hy2 y2 q3 q4
          · exact hall x2 y2 q1 (by omega) q3 q4
        · refine hK [2, 12] _ _ _ _ _ _ ?_
          conv => whnf
          rw [show (sA s 13 a).1 4 = (q : Int) from hq]
          refine And.intro (fun z => absurd z (by omega)) (fun _ => ?_)
          refine ⟨w, sA s 13 a, p, k, x, y, its, rfl, rfl, hp, hk, hp2, hp23, hk1, hk4, by omega, by omega, hits, fun L => ?_⟩
          refine And.intro (fun z => ?_) (fun z => ?_)
          · refine And.intro (rng_of (by omega) (by omega)) ?_
            refine ihy (by omega) L (fun y2 q1 q2 => ?_)
            by_cases e : y2 = y
            · subst e; omega
            · exact hy2 y2 q1 (by omega)
          · rw [hno x y hx1 (by omega) hy1 (by omega) (by omega)] at h2
            exact And.intro (Or.inl rfl) (h2 L)
      refine hK [12] _ _ _ _ _ _ ?_
      conv => whnf
      rw [show (sA s 13 a).1 4 = (q : Int) from hq]
      refine And.intro (fun z => absurd z (by omega)) (fun _ => ?_)
      exact loopY 1 (by omega) (by omega) a (fun y2 _ _ => by omega)
  refine ⟨rfl, hK [2] _ _ _ _ _ _ ?_⟩
  exact loopX 1 hq1 (by omega) (s.2.1 13) none (fun x2 y2 _ _ _ _ => by omega)
theorem m_X10_isPrime (l : Launch) : mm_Met l yX10_isPrime cX10_isPrime 4 (some .boolean) 3 0 0 T_X10_isPrime := mm_met (E := e_X10_isPrime) (cd := kX10_isPrime) s_X10_isPrime (by decide) kX10_isPrime_ok (by decide +kernel) (by decide +kernel) (Or.inr (Or.inr (Or.inl ⟨rfl, rfl⟩))) rfl (mm_eok_X10 _) (mm_calls_cons (mm_cbv wi_X10_multiplyBy (tb5 (i := 193) rfl rfl) (m_X10_multiplyBy l) (by decide) (by decide) rfl) (mm_calls_nil))
/-- the tables of sums and products are those of the field -/
def RT (f : Nat) (s : RS) : Prop := f < 15 ∧ s.1 2 = (fP f : Nat) ∧ s.1 3 = (fK f : Nat) ∧ s.1 4 = (fQ f : Nat) ∧ (∀ x y : Nat, x < fQ f → y < fQ f → s.2.1 7 (27 * (x : Int) + (y : Int)) = (fsum f x y : Nat)) ∧ ∀ x y : Nat, x < fQ f → y < fQ f → s.2.1 8 (27 * (x : Int) + (y : Int)) = (fprd f x y : Nat)
def T_X10_raise : Tr := fun av h N _ => ∃ (w : FW) (s : RS) (f x n : Nat), av = [mR 1000, mI x, mI n] ∧ h = hR w s ∧ RT f s ∧ x < fQ f ∧ n < 1000 ∧ N (some (mI (pw f x n : Nat))) h
abbrev e_X10_raise : NE := (ftX10, [(126, (3, 0, 0, false, (0, 10), T_X10_productOf))], ltX10, [], [], false, 1, (0, 0), [], [], [], false)
theorem s_X10_raise : mm_Spec e_X10_raise kX10_raise 5 T_X10_raise := by
  rintro N X K av h hK ⟨w, s, f, x, n, rfl, rfl, hT, hx, hn, h2⟩
  have hb := fbase hT.1
  have loop : ∀ i, i ≤ n → K 5 [some (mR 1000), some (mI x), some (mI n), some (mI (pw f x i : Nat)), some (mI i)] [] (hR w s) 0 0 := by
    refine mm_for n ?_ (fun i hi ih => ?_)
    · refine hK [5] _ _ _ _ _ _ ?_
      exact And.intro (fun _ => h2) (fun q => absurd q (by omega))
    · refine hK [5] _ _ _ _ _ _ ?_
      refine And.intro (fun q => absurd q (by omega)) (fun _ => ?_)
      have hp := pw_lt hT.1 hx i
      refine ⟨w, s, (pw f x i : Nat), x, rfl, rfl, ⟨by omega, by omega, by omega, by omega⟩, ?_⟩
      rw [hT.2.2.2.2.2 _ _ hp hx]
      refine And.intro (rng_of (by omega) (by omega)) ?_
      exact ih
  refine ⟨rfl, hK [5] _ _ _ _ _ _ ?_⟩
  exact loop 0 (by omega)
theorem m_X10_raise (l : Launch) : mm_Met l yX10_raise cX10_raise 5 (some .int) 1 0 0 T_X10_raise := mm_met (E := e_X10_raise) (cd := kX10_raise) s_X10_raise (by decide) kX10_raise_ok (by decide +kernel) (by decide +kernel) (Or.inr (Or.inl ⟨rfl, rfl⟩)) rfl (mm_eok_X10 _) (mm_calls_cons (mm_cbv wi_X10_productOf (tb5 (i := 213) rfl rfl) (m_X10_productOf l) (by decide) (by decide) rfl) (mm_calls_nil))
def T_X10_orderOf : Tr := fun av h N _ => ∃ (w : FW) (s : RS) (f x : Nat), av = [mR 1000, mI x] ∧ h = hR w s ∧ RT f s ∧ 1 ≤ x ∧ x < fQ f ∧ N (some (mI (ordN f x 30 x 1 : Nat))) h
abbrev e_X10_orderOf : NE := (ftX10, [(126, (3, 0, 0, false, (0, 10), T_X10_productOf))], ltX10, [], [], false, 1, (0, 0), [], [], [], false)
theorem s_X10_orderOf : mm_Spec e_X10_orderOf kX10_orderOf 4 T_X10_orderOf := by
  rintro N X K av h hK ⟨w, s, f, x, rfl, rfl, hT, hx1, hx, h2⟩
  have hb := fbase hT.1
  have loop : ∀ (m v n : Nat), v < fQ f → n + m ≤ 31 → ord1 f x m v = true → ordN f x m v n = ordN f x 30 x 1 → K 4 [some (mR 1000), some (mI x), some (mI n), some (mI v)] [] (hR w s) 0 0 := by
    intro m
    induction m with
    | zero =>
      intro v n hv hnm ho hr
      have e := Nat.eq_of_beq_eq_true ho
      subst e
      refine hK [4] _ _ _ _ _ _ ?_
      refine And.intro (fun _ => ?_) (fun q => absurd rfl q)
      rw [← hr] at h2
      exact h2
    | succ m ih =>
      intro v n hv hnm ho hr
      refine hK [4] _ _ _ _ _ _ ?_
      refine And.intro (fun q => ?_) (fun q => ?_)
      · have e : v = 1 := by omega
        subst e
        rw [← hr] at h2
        exact h2
      · have hne : Nat.beq v 1 = false := by
          cases hz : Nat.beq v 1 with
          | true => exact absurd (Nat.eq_of_beq_eq_true hz) (by omega)
          | false => rfl
        refine And.intro (rng_of (by omega) (by omega)) ?_
        refine ⟨w, s, v, x, rfl, rfl, ⟨by omega, by omega, by omega, by omega⟩, ?_⟩
        rw [hT.2.2.2.2.2 _ _ hv hx]
        have hr2 : ordN f x m (fprd f v x) (n + 1) = ordN f x 30 x 1 := by
          rw [← hr]
          show _ = (match Nat.beq v 1 with | true => n | false => ordN f x m (fprd f v x) (n + 1))
          rw [hne]
        unfold ord1 at ho
        rw [hne] at ho
        exact ih _ (n + 1) (fprd_lt hT.1 hv hx) (by omega) ho hr2
  refine ⟨rfl, hK [4] _ _ _ _ _ _ ?_⟩
  refine loop 30 x 1 hx (by omega) ?_ rfl
  have := fall_at (fevery_at ord_c hT.1) hx
  rw [Bool.or_eq_true] at this
  rcases this with h | h
  · exact absurd (Nat.eq_of_beq_eq_true h) (by omega)
  · exact h
theorem m_X10_orderOf (l : Launch) : mm_Met l yX10_orderOf cX10_orderOf 4 (some .int) 1 0 0 T_X10_orderOf := mm_met (E := e_X10_orderOf) (cd := kX10_orderOf) s_X10_orderOf (by decide) kX10_orderOf_ok (by decide +kernel) (by decide +kernel) (Or.inr (Or.inl ⟨rfl, rfl⟩)) rfl (mm_eok_X10 _) (mm_calls_cons (mm_cbv wi_X10_productOf (tb5 (i := 213) rfl rfl) (m_X10_productOf l) (by decide) (by decide) rfl) (mm_calls_nil))
def T_X10_traceOf : Tr := fun av h N _ => ∃ (w : FW) (s : RS) (f x : Nat), av = [mR 1000, mI x] ∧ h = hR w s ∧ RT f s ∧ x < fQ f ∧ N (some (mI (ftr f x : Nat))) h
abbrev e_X10_traceOf : NE := (ftX10, [(139, (3, 0, 0, false, (0, 10), T_X10_sumOf)), (159, (3, 0, 0, false, (0, 10), T_X10_raise))], ltX10, [], [], false, 1, (0, 0), [], [], [], false)
theorem s_X10_traceOf : mm_Spec e_X10_traceOf kX10_traceOf 5 T_X10_traceOf := by
  rintro N X K av h hK ⟨w, s, f, x, rfl, rfl, hT, hx, h2⟩
  have hb := fbase hT.1
  rw [← rtr_at hT.1 hx] at h2
  have loop : ∀ i, i ≤ fK f → ∀ v sm : Nat, v < fQ f → sm < fQ f → rtr f (fK f - i) v sm = rtr f (fK f) x 0 → K 7 [some (mR 1000), some (mI x), some (mI sm), some (mI v), some (mI i)] [] (hR w s) 0 0 := by
    refine mm_for (fK f) (fun v sm hv hs hr => ?_) (fun i hi ih v sm hv hs hr => ?_)
    · refine hK [7] _ _ _ _ _ _ ?_
      conv => whnf
      rw [hT.2.2.1]
      refine And.intro (fun _ => ?_) (fun q => absurd q (by omega))
      rw [Nat.sub_self] at hr
      rw [← hr] at h2
      exact h2
    · refine hK [7] _ _ _ _ _ _ ?_
      conv => whnf
      rw [hT.2.2.1]
      refine And.intro (fun q => absurd q (by omega)) (fun _ => ?_)
      refine ⟨w, s, sm, v, rfl, rfl, ⟨by omega, by omega, by omega, by omega⟩, ?_⟩
      rw [hT.2.2.2.2.1 _ _ hs hv]
      refine ⟨w, s, f, v, fP f, by show [mR 1000, mI (v : Int), mI (s.1 2)] = _; rw [hT.2.1], rfl, hT, hv, by omega, ?_⟩
      refine And.intro (rng_of (by omega) (by omega)) ?_
      refine ih _ _ (pw_lt hT.1 hv _) (fsum_lt hT.1 hs hv) ?_
      rw [← hr, show fK f - i = (fK f - (i + 1)) + 1 by omega]
      rfl
  refine ⟨rfl, hK [7] _ _ _ _ _ _ ?_⟩
  exact loop 0 (by omega) x 0 hx (by omega) (by rw [Nat.sub_zero])
theorem m_X10_traceOf (l : Launch) : mm_Met l yX10_traceOf cX10_traceOf 5 (some .int) 2 0 0 T_X10_traceOf := mm_met (E := e_X10_traceOf) (cd := kX10_traceOf) s_X10_traceOf (by decide) kX10_traceOf_ok (by decide +kernel) (by decide +kernel) (Or.inr (Or.inl ⟨rfl, rfl⟩)) rfl (mm_eok_X10 _) (mm_calls_cons (mm_cbv wi_X10_sumOf (tb5 (i := 205) rfl rfl) (m_X10_sumOf l) (by decide) (by decide) rfl) (mm_calls_cons (mm_cbv wi_X10_raise (tb5 (i := 221) rfl rfl) (m_X10_raise l) (by decide) (by decide) rfl) (mm_calls_nil)))
def T_X10_quotientOf : Tr := fun av h N _ => ∃ (w : FW) (s : RS) (f x y : Nat), av = [mR 1000, mI x, mI y] ∧ h = hR w s ∧ RT f s ∧ x < fQ f ∧ 1 ≤ y ∧ y < fQ f ∧ N (some (mI (rquo f x y : Nat))) h
abbrev e_X10_quotientOf : NE := (ftX10, [(126, (3, 0, 0, false, (0, 10), T_X10_productOf))], ltX10, [], [], false, 1, (0, 0), [], [], [], false)
theorem s_X10_quotientOf : mm_Spec e_X10_quotientOf kX10_quotientOf 4 T_X10_quotientOf := by
  rintro N X K av h hK ⟨w, s, f, x, y, rfl, rfl, hT, hx, hy1, hy, h2⟩
  have hb := fbase hT.1
  obtain ⟨r1, r2, -⟩ := rquo_at hT.1 hx hy hy1
  have hlow := (fst0_lt (b := fun v => Nat.beq (fprd f v y) x) (fQ f) 0).2
  have loop : ∀ v, v ≤ rquo f x y → K 2 [some (mR 1000), some (mI x), some (mI y), some (mI v)] [] (hR w s) 0 0 := by
    refine mm_for (rquo f x y) ?_ (fun v hv ih => ?_)
    · refine hK [2] _ _ _ _ _ _ ?_
      refine ⟨w, s, (rquo f x y : Nat), y, rfl, rfl, ⟨by omega, by omega, by omega, by omega⟩, ?_⟩
      rw [hT.2.2.2.2.2 _ _ r1 hy, r2]
      exact And.intro (fun _ => h2) (fun q => absurd rfl q)
    · refine hK [2] _ _ _ _ _ _ ?_
      refine ⟨w, s, v, y, rfl, rfl, ⟨by omega, by omega, by omega, by omega⟩, ?_⟩
      rw [hT.2.2.2.2.2 _ _ (by omega) hy]
      have hne : fprd f v y ≠ x := fun e => by
        have := hlow v (by omega) hv
        rw [e] at this
        simp at this
      refine And.intro (fun q => absurd q (by omega)) (fun _ => ?_)
      refine And.intro (rng_of (by omega) (by omega)) ?_
      exact ih
  refine ⟨rfl, hK [2] _ _ _ _ _ _ ?_⟩
  exact loop 0 (by omega)
theorem m_X10_quotientOf (l : Launch) : mm_Met l yX10_quotientOf cX10_quotientOf 4 (some .int) 1 0 0 T_X10_quotientOf := mm_met (E := e_X10_quotientOf) (cd := kX10_quotientOf) s_X10_quotientOf (by decide) kX10_quotientOf_ok (by decide +kernel) (by decide +kernel) (Or.inr (Or.inl ⟨rfl, rfl⟩)) rfl (mm_eok_X10 _) (mm_calls_cons (mm_cbv wi_X10_productOf (tb5 (i := 213) rfl rfl) (m_X10_productOf l) (by decide) (by decide) rfl) (mm_calls_nil))
def T_X10_differenceOf : Tr := fun av h N _ => ∃ (w : FW) (s : RS) (f x y : Nat), av = [mR 1000, mI x, mI y] ∧ h = hR w s ∧ RT f s ∧ x < fQ f ∧ y < fQ f ∧ N (some (mI (rdif f x y : Nat))) h
abbrev e_X10_differenceOf : NE := (ftX10, [(139, (3, 0, 0, false, (0, 10), T_X10_sumOf))], ltX10, [], [], false, 1, (0, 0), [], [], [], false)
theorem s_X10_differenceOf : mm_Spec e_X10_differenceOf kX10_differenceOf 4 T_X10_differenceOf := by
  rintro N X K av h hK ⟨w, s, f, x, y, rfl, rfl, hT, hx, hy, h2⟩
  have hb := fbase hT.1
  obtain ⟨r1, r2, -⟩ := rdif_at hT.1 hx hy
  have hlow := (fst0_lt (b := fun v => Nat.beq (fsum f v y) x) (fQ f) 0).2
  have loop : ∀ v, v ≤ rdif f x y → K 2 [some (mR 1000), some (mI x), some (mI y), some (mI v)] [] (hR w s) 0 0 := by
    refine mm_for (rdif f x y) ?_ (fun v hv ih => ?_)
    · refine hK [2] _ _ _ _ _ _ ?_
      refine ⟨w, s, (rdif f x y : Nat), y, rfl, rfl, ⟨by omega, by omega, by omega, by omega⟩, ?_⟩
      rw [hT.2.2.2.2.1 _ _ r1 hy, r2]
      exact And.intro (fun _ => h2) (fun q => absurd rfl q)
    · refine hK [2] _ _ _ _ _ _ ?_
      refine ⟨w, s, v, y, rfl, rfl, ⟨by omega, by omega, by omega, by omega⟩, ?_⟩
      rw [hT.2.2.2.2.1 _ _ (by omega) hy]
      have hne : fsum f v y ≠ x := fun e => by
        have := hlow v (by omega) hv
        rw [e] at this
        simp at this
      refine And.intro (fun q => absurd q (by omega)) (fun _ => ?_)
      refine And.intro (rng_of (by omega) (by omega)) ?_
      exact ih
  refine ⟨rfl, hK [2] _ _ _ _ _ _ ?_⟩
  exact loop 0 (by omega)
theorem m_X10_differenceOf (l : Launch) : mm_Met l yX10_differenceOf cX10_differenceOf 4 (some .int) 1 0 0 T_X10_differenceOf := mm_met (E := e_X10_differenceOf) (cd := kX10_differenceOf) s_X10_differenceOf (by decide) kX10_differenceOf_ok (by decide +kernel) (by decide +kernel) (Or.inr (Or.inl ⟨rfl, rfl⟩)) rfl (mm_eok_X10 _) (mm_calls_cons (mm_cbv wi_X10_sumOf (tb5 (i := 205) rfl rfl) (m_X10_sumOf l) (by decide) (by decide) rfl) (mm_calls_nil))
def T_X10_isElement : Tr := fun av h N _ => ∃ (w : FW) (s : RS) (x : Int) (q : Nat), av = [mR 1000, mI x] ∧ h = hR w s ∧ mm_rng x ∧ s.1 4 = q ∧ q ≤ 27 ∧ N (some (mI (bi (0 ≤ x ∧ x < q)))) h
abbrev e_X10_isElement : NE := (ftX10, [(162, (3, 0, 0, false, (1, 0), T_X10_isIn))], ltX10, [], [], false, 2, (0, 0), [], [], [], false)
theorem s_X10_isElement : mm_Spec e_X10_isElement kX10_isElement 2 T_X10_isElement := by
  rintro N X K av h hK ⟨w, s, x, q, rfl, rfl, hx, hq, hq27, h2⟩
  refine ⟨rfl, hK [] _ _ _ _ _ _ ?_⟩
  conv => whnf
  rw [hq]
  refine And.intro (rng_of (by omega) (by omega)) ?_
  refine ⟨_, _, _, rfl, ?_⟩
  rw [l_0, l_of hx, l_of (rng_of (by omega) (by omega)), bi_iff (d := 0 ≤ x ∧ x < (q : Int)) (by omega)]
  exact And.intro (bi_01 _) h2
theorem m_X10_isElement (l : Launch) : mm_Met l yX10_isElement cX10_isElement 2 (some .boolean) 1 0 0 T_X10_isElement := mm_met (E := e_X10_isElement) (cd := kX10_isElement) s_X10_isElement (by decide) kX10_isElement_ok (by decide +kernel) (by decide +kernel) (Or.inr (Or.inr (Or.inl ⟨rfl, rfl⟩))) rfl (mm_eok_X10 _) (mm_calls_cons (mm_cbs wi_X10_isIn (tb6 (i := 177) rfl rfl) (m_X10_isIn l) (by decide) (by decide) rfl) (mm_calls_nil))
def T_X10_isCharacter : Tr := fun av h N _ => ∃ (w : FW) (s : RS) (x : Int) (q : Nat), av = [mR 1000, mI x] ∧ h = hR w s ∧ mm_rng x ∧ s.1 4 = q ∧ q ≤ 27 ∧ N (some (mI (bi (0 ≤ x ∧ x < (q : Int) - 1)))) h
abbrev e_X10_isCharacter : NE := (ftX10, [(162, (3, 0, 0, false, (1, 0), T_X10_isIn))], ltX10, [], [], false, 2, (0, 0), [], [], [], false)
theorem s_X10_isCharacter : mm_Spec e_X10_isCharacter kX10_isCharacter 2 T_X10_isCharacter := by
  rintro N X K av h hK ⟨w, s, x, q, rfl, rfl, hx, hq, hq27, h2⟩
  refine ⟨rfl, hK [] _ _ _ _ _ _ ?_⟩
  conv => whnf
  rw [hq]
  refine And.intro (rng_of (by omega) (by omega)) ?_
  refine ⟨_, _, _, rfl, ?_⟩
  rw [l_0, l_of hx, l_of (rng_of (by omega) (by omega)), bi_iff (d := 0 ≤ x ∧ x < (q : Int) - 1) (by omega)]
  exact And.intro (bi_01 _) h2
theorem m_X10_isCharacter (l : Launch) : mm_Met l yX10_isCharacter cX10_isCharacter 2 (some .boolean) 1 0 0 T_X10_isCharacter := mm_met (E := e_X10_isCharacter) (cd := kX10_isCharacter) s_X10_isCharacter (by decide) kX10_isCharacter_ok (by decide +kernel) (by decide +kernel) (Or.inr (Or.inr (Or.inl ⟨rfl, rfl⟩))) rfl (mm_eok_X10 _) (mm_calls_cons (mm_cbs wi_X10_isIn (tb6 (i := 177) rfl rfl) (m_X10_isIn l) (by decide) (by decide) rfl) (mm_calls_nil))
