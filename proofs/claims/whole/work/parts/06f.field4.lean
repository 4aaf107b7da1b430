/-! the component's field: least polynomials, sizes -/
theorem ls_c : fevery (fun f => fall f (fun x => Nat.ble (lsX f x).length (fK f + 1) && (Nat.ble 2 (lsX f x).length && (lsX f x).all (fun z => Nat.blt z (fQ f)))) && fall f (fun x => fall f (fun y => Nat.beq (fprd f (fneg f x) y) (fneg f (fprd f x y)))) && (Nat.beq (fneg f 0) 0 && fall f (fun x => Nat.beq (fprd f x 0) 0))) = true := by decide +kernel
theorem ls_at {f : Nat} (hf : f < 15) : (∀ x, x < fQ f → (lsX f x).length ≤ fK f + 1 ∧ 2 ≤ (lsX f x).length) ∧ (∀ x y, x < fQ f → y < fQ f → fprd f (fneg f x) y = fneg f (fprd f x y)) ∧ fneg f 0 = 0 ∧ ∀ x, x < fQ f → fprd f x 0 = 0 := by
  have h := fevery_at ls_c hf
  simp only [Bool.and_eq_true] at h
  obtain ⟨⟨h1, h2⟩, h3, h4⟩ := h
  refine ⟨fun x hx => ?_, fun x y hx hy => Nat.eq_of_beq_eq_true (fall_at (fall_at h2 hx) hy), Nat.eq_of_beq_eq_true h3, fun x hx => Nat.eq_of_beq_eq_true (fall_at h4 hx)⟩
  have q := fall_at h1 hx
  simp only [Bool.and_eq_true] at q
  exact ⟨Nat.le_of_ble_eq_true q.1, Nat.le_of_ble_eq_true q.2.1⟩
/-- the row holds the list, and 0 behind it -/
def LSt (L : List Nat) (A : Int → Int) : Prop := ∀ i : Nat, i < 5 → A (i : Int) = ((L.getD i 0 : Nat) : Int)
def allQ (q : Nat) (L : List Nat) : Prop := ∀ i, L.getD i 0 < q
theorem lsStep_q {f v : Nat} {L : List Nat} (hf : f < 15) (hv : v < fQ f) (h : allQ (fQ f) L) : allQ (fQ f) (lsStep f v L) := by
  have hb := fbase hf
  intro i
  by_cases hi : i ≤ L.length
  · rw [lsStep_get hi]
    refine fsum_lt hf ?_ ?_
    · cases i with
      | zero => show 0 < fQ f; omega
      | succ j => exact h j
    · cases Nat.blt i L.length with
      | true => exact fprd_lt hf (fneg_lt hf hv) (h i)
      | false => show 0 < fQ f; omega
  · rw [List.getD_eq_getElem?_getD, List.getElem?_eq_none (by rw [lsStep_len]; omega)]
    show 0 < fQ f
    omega
/-- one step, by the component's own reckoning -/
theorem lsStep_eq {f v i : Nat} {L : List Nat} (hf : f < 15) (hv : v < fQ f) (h : allQ (fQ f) L) (hi : i ≤ L.length) : (lsStep f v L).getD i 0 = fsum f (prv L i) (fneg f (fprd f v (L.getD i 0))) := by
  obtain ⟨-, l2, l3, l4⟩ := ls_at hf
  rw [lsStep_get hi]
  congr 1
  by_cases q : i < L.length
  · rw [blt_t q]
    exact l2 v _ hv (h i)
  · rw [blt_f q, show L.getD i 0 = 0 by rw [List.getD_eq_getElem?_getD, List.getElem?_eq_none (by omega)]; rfl, l4 v hv, l3]
theorem lsR_len {f x : Nat} {R : List Nat} : ∀ (n v : Nat) (L : List Nat), lsR f x n v L = some R → L.length + 1 ≤ R.length
  | 0, v, L, h => by cases h
  | n + 1, v, L, h => by
    have h : (match Nat.beq (pw f v (fP f)) x with | true => some (lsStep f v L) | false => lsR f x n (pw f v (fP f)) (lsStep f v L)) = some R := h
    cases hz : Nat.beq (pw f v (fP f)) x with
    | true => rw [hz] at h; cases h; rw [lsStep_len]; exact Nat.le_refl _
    | false =>
      rw [hz] at h
      have := lsR_len n _ _ h
      rw [lsStep_len] at this
      omega
theorem beq_f {a b : Nat} (h : ¬ a = b) : Nat.beq a b = false := by
  cases hz : Nat.beq a b with
  | true => exact absurd (Nat.eq_of_beq_eq_true hz) h
  | false => rfl
def T_X1_findLeast : Tr := fun av h N _ => ∃ (w : CW) (c : CS) (f x : Nat), av = [mR 1, mI x] ∧ h = hC w c ∧ CF f c ∧ x < fQ f ∧ ∀ A : Int → Int, LSt (lsX f x) A → N (some (mI (((lsX f x).length : Int) - 1))) (hC w (kA c 9 A))
abbrev e_X1_findLeast : NE := (ftX1, [(78, (2, 0, 0, false, (1, 0), T_J7_fill_53178)), (72, (3, 0, 0, false, (0, 1), T_X1_times)), (84, (3, 0, 0, false, (0, 1), T_X1_minus)), (75, (3, 0, 0, false, (0, 1), T_X1_raised))], ltX1, [], [], false, 1, (0, 0), [], [], [], true)
set_option maxHeartbeats 8000000 in
theorem s_X1_findLeast : mm_Spec e_X1_findLeast kX1_findLeast 6 T_X1_findLeast := by
  rintro N X K av h hK ⟨w, c, f, x, rfl, rfl, hF, hx, h2⟩
  obtain ⟨h0, hs, hn, hp, hw, ht⟩ := hF
  have hb := fbase h0.1
  obtain ⟨l1, l2, l3, l4⟩ := ls_at h0.1
  obtain ⟨lx1, lx2⟩ := l1 x hx
  have hkk : ∀ A : Int → Int, (kA c 9 A).1 2 = (fK f : Int) := fun _ => h0.2.2.1
  -- L is the list so far, v the root that comes next; d more roots at most
  have outer : ∀ (n v : Nat) (L : List Nat) (A : Int → Int) (o1 o2 : Option MV), v < fQ f → allQ (fQ f) L → 1 ≤ L.length → L.length + n = 5 → lsR f x n v L = some (lsX f x) → LSt L A → K 19 [some (mR 1), some (mI x), some (mI ((L.length : Int) - 1)), some (mI v), o1, o2] [] (hC w (kA c 9 A)) 0 0 := by
    intro n
    induction n with
    | zero => intro v L A o1 o2 hv hq hl hn he; cases he
    | succ n ih =>
      intro v L A o1 o2 hv hq hl hn5 he hA
      have he : (match Nat.beq (pw f v (fP f)) x with | true => some (lsStep f v L) | false => lsR f x n (pw f v (fP f)) (lsStep f v L)) = some (lsX f x) := he
      have hlen : L.length + 1 ≤ (lsX f x).length := lsR_len (n + 1) v L he
      have hLl : L.length ≤ 4 := by omega
      -- the coefficients from the highest on
      have inner : ∀ (m : Nat), m ≤ L.length + 1 → ∀ (B : Int → Int) (o : Option MV) (i : Int), i = (m : Int) - 1 → (∀ j : Nat, j < 5 → B (j : Int) = if j < m then ((L.getD j 0 : Nat) : Int) else (((lsStep f v L).getD j 0 : Nat) : Int)) → K 25 [some (mR 1), some (mI x), some (mI (L.length : Int)), some (mI v), some (mI i), o] [] (hC w (kA c 9 B)) 0 0 := by
        intro m
        induction m with
        | zero =>
          intro hm B o i hi hB
          subst hi
          have hB2 : LSt (lsStep f v L) B := fun j hj => by rw [hB j hj, if_neg (by omega)]
          have hpl := pw_lt h0.1 hv (fP f)
          refine hK [19] _ _ _ _ _ _ ?_
          refine And.intro (fun _ => ?_) (fun q => absurd q (by omega))
          refine ⟨w, kA c 9 B, f, v, fP f, by show [mR 1, mI (v : Int), mI (c.1 1)] = _; rw [h0.2.1], rfl, h0, hw, hv, by omega, by omega, ?_⟩
          refine And.intro (fun q => ?_) (fun q => ?_)
          · have q : pw f v (fP f) = x := by omega
            rw [q, Nat.beq_refl] at he
            have he : lsStep f v L = lsX f x := Option.some.inj he
            rw [he] at hB2
            have h3 := h2 B hB2
            rw [← he, lsStep_len, show ((L.length + 1 : Nat) : Int) - 1 = (L.length : Int) by omega] at h3
            exact h3
          · have q : ¬ pw f v (fP f) = x := by omega
            rw [show Nat.beq (pw f v (fP f)) x = false from beq_f q] at he
            have he : lsR f x n (pw f v (fP f)) (lsStep f v L) = some (lsX f x) := he
            have hl2 : (lsStep f v L).length + 1 ≤ (lsX f x).length := lsR_len n _ _ he
            rw [lsStep_len] at hl2
            conv => whnf
            rw [hkk]
            refine And.intro (fun _ => ?_) (fun q => absurd q (by omega))
            have h3 := ih (pw f v (fP f)) (lsStep f v L) B (some (mI ((0 : Nat) - 1 : Int))) o hpl (lsStep_q h0.1 hv hq) (by rw [lsStep_len]; omega) (by rw [lsStep_len]; omega) he hB2
            rw [lsStep_len, show ((L.length + 1 : Nat) : Int) - 1 = (L.length : Int) by omega] at h3
            exact h3
        | succ m ihm =>
          intro hm B o i hi hB
          have hi : i = (m : Int) := by omega
          subst hi
          have hg := lsStep_eq (i := m) h0.1 hv hq (by omega)
          -- what has risen
          have fin : ∀ r : Nat, r < fQ f → prv L m = r → K 48 [some (mR 1), some (mI x), some (mI (L.length : Int)), some (mI v), some (mI (m : Int)), o] [mI (r : Int)] (hC w (kA c 9 B)) 0 0 := by
            intro r hr er
            rw [er] at hg
            have hBm : B (m : Int) = ((L.getD m 0 : Nat) : Int) := by rw [hB m (by omega), if_pos (by omega)]
            refine hK [25] _ _ _ _ _ _ ?_
            refine And.intro (by omega) ?_
            refine ⟨w, kA c 9 B, f, v, L.getD m 0, by show [mR 1, mI (v : Int), mI (B (m : Int))] = _; rw [hBm], rfl, h0, hp, hv, hq m, ?_⟩
            refine ⟨w, kA c 9 B, f, r, fprd f v (L.getD m 0), rfl, rfl, h0, hs, hn, hr, fprd_lt h0.1 hv (hq m), ?_⟩
            rw [← hg]
            refine And.intro (by omega) ?_
            refine And.intro (rng_of (by omega) (by omega)) ?_
            refine ihm (by omega) (mm_upd B (m : Int) (((lsStep f v L).getD m 0 : Nat) : Int)) _ _ (by omega) (fun j hj => ?_)
            unfold mm_upd
            by_cases e : j = m
            · rw [if_pos (by omega), if_neg (by omega), e]
            · rw [if_neg (by omega), hB j hj]
              by_cases e2 : j < m
              · rw [if_pos (by omega), if_pos e2]
              · rw [if_neg (by omega), if_neg e2]
          refine hK [25, 48] _ _ _ _ _ _ ?_
          refine And.intro (fun q => absurd q (by omega)) (fun _ => ?_)
          refine And.intro (fun q => ?_) (fun q => ?_)
          · have e : m = 0 := by omega
            subst e
            exact fin 0 (by omega) rfl
          · obtain ⟨j, rfl⟩ : ∃ j, m = j + 1 := ⟨m - 1, by omega⟩
            have hBj : B (j : Int) = ((L.getD j 0 : Nat) : Int) := by rw [hB j (by omega), if_pos (by omega)]
            refine And.intro (rng_of (by omega) (by omega)) ?_
            rw [show ((j + 1 : Nat) : Int) - 1 = (j : Int) by omega]
            refine And.intro (by omega) ?_
            conv => whnf
            rw [show (kA c 9 B).2.1 9 (j : Int) = _ from hBj]
            exact fin _ (hq j) rfl
      refine hK [25] _ _ _ _ _ _ ?_
      refine And.intro (rng_of (by omega) (by omega)) ?_
      rw [show ((L.length : Int)) - 1 + 1 = (L.length : Int) by omega]
      refine inner (L.length + 1) (Nat.le_refl _) A _ _ (by omega) (fun j hj => ?_)
      rw [hA j hj]
      by_cases e : j < L.length + 1
      · rw [if_pos e]
      · rw [if_neg e, show (lsStep f v L).getD j 0 = 0 by rw [List.getD_eq_getElem?_getD, List.getElem?_eq_none (by rw [lsStep_len]; omega)]; rfl, show L.getD j 0 = 0 by rw [List.getD_eq_getElem?_getD, List.getElem?_eq_none (by omega)]; rfl]
  refine ⟨rfl, hK [19] _ _ _ _ _ _ ?_⟩
  refine ⟨w, c, 0, rfl, Or.inl ⟨rfl, fun b hb => ?_⟩⟩
  refine And.intro (by omega) ?_
  refine outer 4 x [1] (mm_upd b 0 1) _ _ hx (fun i => ?_) (by simp) (by simp) (lsR_at h0.1 hx) (fun i hi => ?_)
  · cases i with
    | zero => show 1 < fQ f; omega
    | succ i => show 0 < fQ f; omega
  · unfold mm_upd
    cases i with
    | zero => exact if_pos rfl
    | succ i =>
      rw [if_neg (by omega), hb, if_pos (by omega)]
      rfl
theorem m_X1_findLeast (l : Launch) : mm_Met l yX1_findLeast cX1_findLeast 6 (some .int) 2 0 0 T_X1_findLeast := mm_met (E := e_X1_findLeast) (cd := kX1_findLeast) s_X1_findLeast (by decide) kX1_findLeast_ok (by decide +kernel) (by decide +kernel) (Or.inr (Or.inl ⟨rfl, rfl⟩)) rfl (mm_eok_X1 _) (mm_calls_cons (mm_cbs wi_J7_fill_53178 (tb5 (i := 83) rfl rfl) (m_J7_fill_53178 l) (by decide) (by decide) rfl) (mm_calls_cons (mm_cbv wi_X1_times (tb2 (i := 106) rfl rfl) (m_X1_times l) (by decide) (by decide) rfl) (mm_calls_cons (mm_cbv wi_X1_minus (tb2 (i := 78) rfl rfl) (m_X1_minus l) (by decide) (by decide) rfl) (mm_calls_cons (mm_cbv wi_X1_raised (tb2 (i := 114) rfl rfl) (m_X1_raised l) (by decide) (by decide) rfl) (mm_calls_nil)))))
