/-! the reference: values by coefficients -/
def RQ (f : Nat) (s : RS) : Prop := f < 15 ∧ s.1 14 = (fN f : Nat) ∧ s.1 15 = (fD f : Nat) ∧ ∀ j : Nat, j ≤ fD f → s.2.2 16 (j : Int) = ph f j
def T_X10_cell : Tr := fun av h N _ => ∃ a i : Int, av = [mI a, mI i] ∧ 0 ≤ a ∧ a ≤ 100 ∧ 0 ≤ i ∧ i ≤ 1000 ∧ N (some (mI (256 * a + i))) h
abbrev e_X10_cell : NE := (ftX10, [], ltX10, [], [], false, 1, (0, 0), [], [], [], false)
theorem s_X10_cell : mm_Spec e_X10_cell kX10_cell 2 T_X10_cell := by
  rintro N X K av h hK ⟨a, i, rfl, h1, h2, h3, h4, h5⟩
  refine ⟨rfl, hK [] _ _ _ _ _ _ ?_⟩
  exact And.intro (rng_of (by omega) (by omega)) (And.intro (rng_of (by omega) (by omega)) h5)
theorem m_X10_cell (l : Launch) : mm_Met l yX10_cell cX10_cell 2 (some .int) 0 0 0 T_X10_cell := mm_met (E := e_X10_cell) (cd := kX10_cell) s_X10_cell (by decide) kX10_cell_ok (by decide +kernel) (by decide +kernel) (Or.inr (Or.inl ⟨rfl, rfl⟩)) rfl (mm_eok_X10 _) (mm_calls_nil)
def T_X10_clear : Tr := fun av h N _ => ∃ (w : FW) (s : RS) (a : Nat), av = [mR 1000, mI a] ∧ h = hR w s ∧ a ≤ 34 ∧ ∀ v : Int → Int64, (∀ i : Int, v i = if 256 * (a : Int) ≤ i ∧ i < 256 * (a : Int) + 256 then 0 else s.2.2 24 i) → N none (hR w (sL s 24 v))
abbrev e_X10_clear : NE := (ftX10, [(184, (2, 0, 0, false, (1, 0), T_X10_cell))], ltX10, [], [], false, 0, (0, 0), [], [], [], false)
theorem s_X10_clear : mm_Spec e_X10_clear kX10_clear 3 T_X10_clear := by
  rintro N X K av h hK ⟨w, s, a, rfl, rfl, ha, h2⟩
  have loop : ∀ i : Nat, i ≤ 256 → ∀ v : Int → Int64, (∀ j : Int, v j = if 256 * (a : Int) ≤ j ∧ j < 256 * (a : Int) + i then 0 else s.2.2 24 j) → K 2 [some (mR 1000), some (mI a), some (mI i)] [] (hR w (sL s 24 v)) 0 0 := by
    refine mm_for 256 (fun v hv => ?_) (fun i hi ih v hv => ?_)
    · refine hK [2] _ _ _ _ _ _ ?_
      exact And.intro (fun _ => h2 v hv) (fun q => absurd q (by omega))
    · refine hK [2] _ _ _ _ _ _ ?_
      refine And.intro (fun q => absurd q (by omega)) (fun _ => ?_)
      refine ⟨a, i, rfl, by omega, by omega, by omega, by omega, ?_⟩
      refine And.intro (by omega) ?_
      refine And.intro (rng_of (by omega) (by omega)) ?_
      refine ih (mm_updL v (256 * (a : Int) + i) 0) (fun j => ?_)
      unfold mm_updL
      by_cases q : j = 256 * (a : Int) + i
      · rw [if_pos q, if_pos (by omega)]
      · rw [if_neg q, hv]
        by_cases q2 : 256 * (a : Int) ≤ j ∧ j < 256 * (a : Int) + i
        · rw [if_pos q2, if_pos (by omega)]
        · rw [if_neg q2, if_neg (by omega)]
  refine ⟨rfl, hK [2] _ _ _ _ _ _ ?_⟩
  exact loop 0 (by omega) (s.2.2 24) (fun j => by rw [if_neg (by omega)])
theorem m_X10_clear (l : Launch) : mm_Met l yX10_clear cX10_clear 3 none 1 0 0 T_X10_clear := mm_met (E := e_X10_clear) (cd := kX10_clear) s_X10_clear (by decide) kX10_clear_ok (by decide +kernel) (by decide +kernel) (Or.inl ⟨rfl, rfl⟩) rfl (mm_eok_X10 _) (mm_calls_cons (mm_cbs wi_X10_cell (tb5 (i := 238) rfl rfl) (m_X10_cell l) (by decide) (by decide) rfl) (mm_calls_nil))
def T_X10_copy : Tr := fun av h N _ => ∃ (w : FW) (s : RS) (a b : Nat), av = [mR 1000, mI a, mI b] ∧ h = hR w s ∧ a ≤ 34 ∧ b ≤ 34 ∧ ∀ v : Int → Int64, (∀ i : Int, v i = if 256 * (a : Int) ≤ i ∧ i < 256 * (a : Int) + 256 then s.2.2 24 (256 * (b : Int) + (i - 256 * (a : Int))) else s.2.2 24 i) → N none (hR w (sL s 24 v))
abbrev e_X10_copy : NE := (ftX10, [(184, (2, 0, 0, false, (1, 0), T_X10_cell))], ltX10, [], [], false, 0, (0, 0), [], [], [], false)
theorem s_X10_copy : mm_Spec e_X10_copy kX10_copy 4 T_X10_copy := by
  rintro N X K av h hK ⟨w, s, a, b, rfl, rfl, ha, hb, h2⟩
  have loop : ∀ i : Nat, i ≤ 256 → ∀ v : Int → Int64, (∀ j : Int, v j = if 256 * (a : Int) ≤ j ∧ j < 256 * (a : Int) + i then s.2.2 24 (256 * (b : Int) + (j - 256 * (a : Int))) else s.2.2 24 j) → K 2 [some (mR 1000), some (mI a), some (mI b), some (mI i)] [] (hR w (sL s 24 v)) 0 0 := by
    refine mm_for 256 (fun v hv => ?_) (fun i hi ih v hv => ?_)
    · refine hK [2] _ _ _ _ _ _ ?_
      exact And.intro (fun _ => h2 v hv) (fun q => absurd q (by omega))
    · refine hK [2] _ _ _ _ _ _ ?_
      refine And.intro (fun q => absurd q (by omega)) (fun _ => ?_)
      refine ⟨a, i, rfl, by omega, by omega, by omega, by omega, ?_⟩
      refine ⟨b, i, rfl, by omega, by omega, by omega, by omega, ?_⟩
      refine And.intro (by omega) ?_
      refine And.intro (by omega) ?_
      refine And.intro (rng_of (by omega) (by omega)) ?_
      refine ih (mm_updL v (256 * (a : Int) + i) (v (256 * (b : Int) + i))) (fun j => ?_)
      unfold mm_updL
      have hvb : v (256 * (b : Int) + i) = s.2.2 24 (256 * (b : Int) + i) := by
        rw [hv]
        by_cases q : 256 * (a : Int) ≤ 256 * (b : Int) + i ∧ 256 * (b : Int) + i < 256 * (a : Int) + i
        · have : (a : Int) = b := by omega
          omega
        · rw [if_neg q]
      by_cases q : j = 256 * (a : Int) + i
      · rw [if_pos q, if_pos (by omega), hvb, show 256 * (b : Int) + (j - 256 * (a : Int)) = 256 * (b : Int) + i by omega]
      · rw [if_neg q, hv]
        by_cases q2 : 256 * (a : Int) ≤ j ∧ j < 256 * (a : Int) + i
        · rw [if_pos q2, if_pos (by omega)]
        · rw [if_neg q2, if_neg (by omega)]
  refine ⟨rfl, hK [2] _ _ _ _ _ _ ?_⟩
  exact loop 0 (by omega) (s.2.2 24) (fun j => by rw [if_neg (by omega)])
theorem m_X10_copy (l : Launch) : mm_Met l yX10_copy cX10_copy 4 none 1 0 0 T_X10_copy := mm_met (E := e_X10_copy) (cd := kX10_copy) s_X10_copy (by decide) kX10_copy_ok (by decide +kernel) (by decide +kernel) (Or.inl ⟨rfl, rfl⟩) rfl (mm_eok_X10 _) (mm_calls_cons (mm_cbs wi_X10_cell (tb5 (i := 238) rfl rfl) (m_X10_cell l) (by decide) (by decide) rfl) (mm_calls_nil))
def T_X10_forget : Tr := fun av h N _ => ∃ (w : FW) (s : RS), av = [mR 1000] ∧ h = hR w s ∧ ∀ c : Int → Int64, (∀ i : Nat, i < 512 → c i = 0) → N none (hR w (sL s 25 c))
abbrev e_X10_forget : NE := (ftX10, [], ltX10, [], [], false, 0, (0, 0), [], [], [], false)
theorem s_X10_forget : mm_Spec e_X10_forget kX10_forget 2 T_X10_forget := by
  rintro N X K av h hK ⟨w, s, rfl, rfl, h2⟩
  have loop : ∀ i : Nat, i ≤ 512 → ∀ c : Int → Int64, (∀ j : Nat, j < i → c j = 0) → K 2 [some (mR 1000), some (mI i)] [] (hR w (sL s 25 c)) 0 0 := by
    refine mm_for 512 (fun c hc => ?_) (fun i hi ih c hc => ?_)
    · refine hK [2] _ _ _ _ _ _ ?_
      exact And.intro (fun _ => h2 c hc) (fun q => absurd q (by omega))
    · refine hK [2] _ _ _ _ _ _ ?_
      refine And.intro (fun q => absurd q (by omega)) (fun _ => ?_)
      refine And.intro (by omega) ?_
      refine And.intro (rng_of (by omega) (by omega)) ?_
      refine ih (mm_updL c i 0) (fun j hj => ?_)
      unfold mm_updL
      split
      · rfl
      · exact hc j (by omega)
  refine ⟨rfl, hK [2] _ _ _ _ _ _ ?_⟩
  exact loop 0 (by omega) (s.2.2 25) (fun j hj => by omega)
theorem m_X10_forget (l : Launch) : mm_Met l yX10_forget cX10_forget 2 none 0 0 0 T_X10_forget := mm_met (E := e_X10_forget) (cd := kX10_forget) s_X10_forget (by decide) kX10_forget_ok (by decide +kernel) (by decide +kernel) (Or.inl ⟨rfl, rfl⟩) rfl (mm_eok_X10 _) (mm_calls_nil)
theorem lN_of (n : Nat) : Int64.ofInt (n : Int) = lN n := Int64.ofInt_eq_ofNat
theorem lrem_nat {a b : Nat} (ha : a < 9223372036854775808) (h0 : 0 < b) (hb : b < 9223372036854775808) : Int64.ofInt (a : Int) - Int64.ofInt (a : Int) / Int64.ofInt (b : Int) * Int64.ofInt (b : Int) = Int64.ofInt ((a % b : Nat) : Int) := by
  rw [lN_of, lN_of, lN_of, pk_lRem (by omega) h0 (by omega)]
theorem lti {n : Nat} (h : n < 9223372036854775808) : (Int64.ofInt (n : Int)).toInt = (n : Int) := by rw [lN_of, pk_lT (by omega)]
theorem l_ne0 {n : Nat} (h0 : 0 < n) (h : n < 9223372036854775808) : Int64.ofInt (n : Int) ≠ 0 := fun e => by
  have := congrArg Int64.toInt e
  rw [lti h] at this
  simp at this
  omega
def T_X10_counts : Tr := fun av h N _ => ∃ (w : FW) (s : RS) (e n : Nat) (by1 : Int64), av = [mR 1000, mL (Int64.ofInt (e : Int)), mL by1] ∧ h = hR w s ∧ e < 1000000000 ∧ s.1 14 = n ∧ 0 < n ∧ n ≤ 506 ∧ N none (hR w (sL s 25 (mm_updL (s.2.2 25) ((e % n : Nat) : Int) (s.2.2 25 ((e % n : Nat) : Int) + by1))))
abbrev e_X10_counts : NE := (ftX10, [], ltX10, [], [], false, 0, (0, 0), [], [], [], false)
theorem s_X10_counts : mm_Spec e_X10_counts kX10_counts 6 T_X10_counts := by
  rintro N X K av h hK ⟨w, s, e, n, by1, rfl, rfl, he, hn, hn0, hn5, h2⟩
  have hm : e % n < n := Nat.mod_lt _ hn0
  refine ⟨rfl, hK [] _ _ _ _ _ _ ?_⟩
  conv => whnf
  rw [hn]
  refine And.intro (l_ne0 hn0 (by omega)) ?_
  rw [lrem_nat (by omega) hn0 (by omega)]
  refine And.intro (by rw [lti (by omega)]; exact rng_nat (by omega)) ?_
  rw [lti (by omega)]
  refine And.intro (by omega) ?_
  refine And.intro (by omega) ?_
  exact h2
theorem m_X10_counts (l : Launch) : mm_Met l yX10_counts cX10_counts 6 none 0 0 0 T_X10_counts := mm_met (E := e_X10_counts) (cd := kX10_counts) s_X10_counts (by decide) kX10_counts_ok (by decide +kernel) (by decide +kernel) (Or.inl ⟨rfl, rfl⟩) rfl (mm_eok_X10 _) (mm_calls_nil)
/-- what the counts stand for -/
abbrev cW (f : Nat) (s : RS) (t : Nat) : Int64 := cV f (fun e => s.2.2 25 (e : Int)) (fN f) t
/-- slot a has the coefficients V -/
def slotS (f a : Nat) (V : Nat → Int64) (old v : Int → Int64) : Prop := ∀ i : Int, v i = if 256 * (a : Int) ≤ i ∧ i < 256 * (a : Int) + 256 then (if i < 256 * (a : Int) + fD f then V (i - 256 * (a : Int)).toNat else 0) else old i
def T_X10_take : Tr := fun av h N _ => ∃ (w : FW) (s : RS) (f a : Nat), av = [mR 1000, mI a] ∧ h = hR w s ∧ RQ f s ∧ a ≤ 34 ∧ ∀ r v : Int → Int64, slotS f a (cW f s) (s.2.2 24) v → N (some (mI (bi (small f (cW f s))))) (hR w (sL (sL s 18 r) 24 v))
abbrev e_X10_take : NE := (ftX10, [(155, (2, 0, 0, false, (0, 10), T_X10_clear)), (184, (2, 0, 0, false, (1, 0), T_X10_cell)), (162, (3, 0, 0, false, (1, 0), T_X10_isIn))], ltX10, [], [], false, 2, (0, 0), [], [], [], false)
set_option maxHeartbeats 4000000 in
theorem s_X10_take : mm_Spec e_X10_take kX10_take 6 T_X10_take := by
  rintro N X K av h hK ⟨w, s, f, a, rfl, rfl, hQ, ha, h2⟩
  obtain ⟨hf, hn, hd, hroot⟩ := hQ
  obtain ⟨b1, b2, b3, b4, b5, b6, b7, b8, b9, b10, b11, b12⟩ := fbase hf
  -- coefficients are laid
  have loopS : ∀ i : Nat, i ≤ fD f → ∀ (r v : Int → Int64) (g : Int) (o4 o5 : Option MV), (∀ t : Nat, t < fD f → r t = cW f s t) → (∀ j : Int, v j = if 256 * (a : Int) ≤ j ∧ j < 256 * (a : Int) + 256 then (if j < 256 * (a : Int) + i then cW f s (j - 256 * (a : Int)).toNat else 0) else s.2.2 24 j) → g = bi (∀ t, t < i → -1000000 ≤ (cW f s t).toInt ∧ (cW f s t).toInt ≤ 1000000) → K 118 [some (mR 1000), some (mI a), some (mI g), some (mI i), o4, o5] [] (hR w (sL (sL s 18 r) 24 v)) 0 0 := by
    refine mm_for (fD f) (fun r v g o4 o5 hr hv hg => ?_) (fun i hi ih r v g o4 o5 hr hv hg => ?_)
    · refine hK [118] _ _ _ _ _ _ ?_
      conv => whnf
      rw [show (sL (sL s 18 r) 24 v).1 15 = (fD f : Int) from hd]
      refine And.intro (fun _ => ?_) (fun q => absurd q (by omega))
      have h3 := h2 r v hv
      rw [← hg] at h3
      refine And.intro (by rw [hg]; exact bi_01 _) h3
    · refine hK [118] _ _ _ _ _ _ ?_
      conv => whnf
      rw [show (sL (sL s 18 r) 24 v).1 15 = (fD f : Int) from hd]
      refine And.intro (fun q => absurd q (by omega)) (fun _ => ?_)
      refine ⟨a, i, rfl, by omega, by omega, by omega, by omega, ?_⟩
      refine And.intro (by omega) ?_
      refine And.intro (by omega) ?_
      have hv2 : ∀ j : Int, mm_updL v (256 * (a : Int) + i) (r i) j = if 256 * (a : Int) ≤ j ∧ j < 256 * (a : Int) + 256 then (if j < 256 * (a : Int) + ((i + 1 : Nat) : Int) then cW f s (j - 256 * (a : Int)).toNat else 0) else s.2.2 24 j := by
        intro j
        unfold mm_updL
        by_cases q : j = 256 * (a : Int) + i
        · rw [if_pos q, if_pos (by omega), if_pos (by omega), hr i hi, show (j - 256 * (a : Int)).toNat = i by omega]
        · rw [if_neg q, hv]
          by_cases q2 : 256 * (a : Int) ≤ j ∧ j < 256 * (a : Int) + 256
          · rw [if_pos q2, if_pos q2]
            by_cases q3 : j < 256 * (a : Int) + i
            · rw [if_pos q3, if_pos (by omega)]
            · rw [if_neg q3, if_neg (by omega)]
          · rw [if_neg q2, if_neg q2]
      refine And.intro (fun q0 => ?_) (fun q0 => ?_)
      · refine And.intro (rng_of (by omega) (by omega)) ?_
        refine ih r (mm_updL v (256 * (a : Int) + i) (r i)) 0 _ _ hr hv2 ?_
        rw [hg] at q0
        exact (bi_f (fun hall => (bi_eq0.mp q0) (fun t ht => hall t (by omega)))).symm
      · rw [hg] at q0
        have hall := bi_ne0.mp q0
        refine And.intro (by omega) ?_
        refine ⟨_, _, _, rfl, ?_⟩
        rw [show (sL (sL s 18 r) 24 v).2.2 18 (i : Int) = cW f s i from hr i hi]
        have hc : ((-1000000 : Int64)).toInt = -1000000 := by decide
        have hc2 : ((1000000 : Int64)).toInt = 1000000 := by decide
        rw [hc, hc2]
        refine And.intro (fun q1 => ?_) (fun q1 => ?_)
        · refine And.intro (rng_of (by omega) (by omega)) ?_
          refine ih r (mm_updL v (256 * (a : Int) + i) (cW f s i)) 0 _ _ hr (by rw [← show r (i : Int) = cW f s i from hr i hi]; exact hv2) ?_
          exact (bi_f (fun hall2 => (bi_eq0.mp q1) (hall2 i (by omega)))).symm
        · refine And.intro (rng_of (by omega) (by omega)) ?_
          refine ih r (mm_updL v (256 * (a : Int) + i) (cW f s i)) 1 _ _ hr (by rw [← show r (i : Int) = cW f s i from hr i hi]; exact hv2) ?_
          refine (bi_t (fun t ht => ?_)).symm
          by_cases e : t = i
          · subst e; exact bi_ne0.mp q1
          · exact hall t (by omega)
  -- made less, from the highest on
  have loopD : ∀ (n : Nat) (r : Int → Int64) (o4 o5 : Option MV) (o3 : Option MV), fD f + n ≤ fN f → (∀ t : Nat, t < fD f → cV f (fun e => r (e : Int)) (fD f + n) t = cW f s t) → ∀ i : Int, i = (fD f : Int) + n - 1 → K 35 [some (mR 1000), some (mI a), some (mI i), o3, o4, o5] [] (hR w (sL s 18 r)) 0 0 := by
    intro n
    induction n with
    | zero =>
      intro r o4 o5 o3 hn2 hV i hi
      refine hK [35, 118] _ _ _ _ _ _ ?_
      conv => whnf
      rw [show (sL s 18 r).1 15 = (fD f : Int) from hd]
      refine And.intro (fun _ => ?_) (fun q => absurd q (by omega))
      refine ⟨w, sL s 18 r, a, rfl, rfl, ha, fun v hv => ?_⟩
      refine loopS 0 (by omega) r v 1 _ _ (fun t ht => ?_) (fun j => ?_) ?_
      · have := hV t ht
        rw [Nat.add_zero, cV_low hf ht] at this
        exact this
      · rw [hv]
        show (if 256 * (a : Int) ≤ j ∧ j < 256 * (a : Int) + 256 then (0 : Int64) else s.2.2 24 j) = _
        split
        · rw [if_neg (by omega)]
        · rfl
      · exact (bi_t (fun t ht => by omega)).symm
    | succ n ih =>
      intro r o4 o5 o3 hn2 hV i hi
      obtain ⟨k, hk⟩ : ∃ k, k = fD f + n := ⟨_, rfl⟩
      have ei : i = (k : Int) := by omega
      subst ei
      have loopJ : ∀ j : Nat, j ≤ fD f + 1 → ∀ r2 : Int → Int64, (∀ e : Nat, e ≤ k → r2 (e : Int) = if k - fD f ≤ e ∧ e < k - fD f + j then r (e : Int) - r (k : Int) * ph f (e - (k - fD f)) else r (e : Int)) → K 62 [some (mR 1000), some (mI a), some (mI k), some (mL (r k)), none, some (mI j)] [] (hR w (sL s 18 r2)) 0 0 := by
        refine mm_for (fD f + 1) (fun r2 hr2 => ?_) (fun j hj ihj r2 hr2 => ?_)
        · refine hK [35, 62] _ _ _ _ _ _ ?_
          conv => whnf
          rw [show (sL s 18 r2).1 15 = (fD f : Int) from hd]
          refine And.intro (fun _ => ?_) (fun q => absurd q (by omega))
          refine And.intro (rng_of (by omega) (by omega)) ?_
          refine ih r2 _ _ _ (by omega) (fun t ht => ?_) _ (by omega)
          rw [← hV t ht, show fD f + (n + 1) = k + 1 by omega, ← hk]
          refine cV_less hf ht (by omega) (fun e he => ?_)
          show r2 (e : Int) = _
          rw [hr2 e (by omega)]
          by_cases q : k - fD f ≤ e
          · rw [if_pos ⟨q, by omega⟩, if_pos q]
          · rw [if_neg (fun z => q z.1), if_neg q]
        · refine hK [35, 62] _ _ _ _ _ _ ?_
          conv => whnf
          rw [show (sL s 18 r2).1 15 = (fD f : Int) from hd]
          refine And.intro (fun q => absurd q (by omega)) (fun _ => ?_)
          conv => whnf
          rw [show (sL s 18 r2).1 15 = (fD f : Int) from hd]
          refine And.intro (rng_of (by omega) (by omega)) ?_
          refine And.intro (rng_of (by omega) (by omega)) ?_
          refine And.intro (by omega) ?_
          refine And.intro (by omega) ?_
          refine And.intro (by omega) ?_
          refine And.intro (rng_of (by omega) (by omega)) ?_
          refine ihj (mm_updL r2 ((k : Int) - (fD f : Int) + j) (r2 ((k : Int) - (fD f : Int) + j) - r k * (sL s 18 r2).2.2 16 (j : Int))) (fun e he => ?_)
          rw [show (sL s 18 r2).2.2 16 (j : Int) = ph f j from hroot j (by omega), show (k : Int) - (fD f : Int) + j = ((k - fD f + j : Nat) : Int) by omega]
          unfold mm_updL
          by_cases q : e = k - fD f + j
          · rw [if_pos (by omega), if_pos (by omega), hr2 _ (by omega), if_neg (by omega), q, show k - fD f + j - (k - fD f) = j by omega]
          · rw [if_neg (by omega), hr2 e he]
            by_cases q2 : k - fD f ≤ e ∧ e < k - fD f + j
            · rw [if_pos q2, if_pos (by omega)]
            · rw [if_neg q2, if_neg (by omega)]
      refine hK [35, 62] _ _ _ _ _ _ ?_
      conv => whnf
      rw [show (sL s 18 r).1 15 = (fD f : Int) from hd]
      refine And.intro (fun q => absurd q (by omega)) (fun _ => ?_)
      refine And.intro (by omega) ?_
      refine And.intro (fun _ => ?_) (fun q0 => ?_)
      · exact loopJ 0 (by omega) r (fun e he => by rw [if_neg (by omega)])
      · have hz : r (k : Int) = 0 := by
          have := (cmp_eq _ _).mp q0
          rw [lc0] at this
          exact this
        refine And.intro (rng_of (by omega) (by omega)) ?_
        refine ih r _ _ _ (by omega) (fun t ht => ?_) _ (by omega)
        rw [← hV t ht, show fD f + (n + 1) = k + 1 by omega, ← hk]
        show cV f (fun e => r (e : Int)) k t = cV f (fun e => r (e : Int)) k t + r (k : Int) * rho f k t
        rw [hz]
        simp
  -- the counts are taken over
  have loopC : ∀ i : Nat, i ≤ fN f → ∀ r : Int → Int64, (∀ e : Nat, e < i → r (e : Int) = s.2.2 25 (e : Int)) → K 2 [some (mR 1000), some (mI a), some (mI i), none, none, none] [] (hR w (sL s 18 r)) 0 0 := by
    refine mm_for (fN f) (fun r hr => ?_) (fun i hi ih r hr => ?_)
    · refine hK [2, 35] _ _ _ _ _ _ ?_
      conv => whnf
      rw [show (sL s 18 r).1 14 = (fN f : Int) from hn]
      refine And.intro (fun _ => ?_) (fun q => absurd q (by omega))
      conv => whnf
      rw [show (sL s 18 r).1 14 = (fN f : Int) from hn]
      refine And.intro (rng_of (by omega) (by omega)) ?_
      refine loopD (fN f - fD f) r none none none (by omega) (fun t ht => ?_) _ (by omega)
      rw [show fD f + (fN f - fD f) = fN f by omega]
      unfold cV
      exact sumL_congr _ (fun e he => by show r (e : Int) * _ = _; rw [hr e he])
    · refine hK [2, 35] _ _ _ _ _ _ ?_
      conv => whnf
      rw [show (sL s 18 r).1 14 = (fN f : Int) from hn]
      refine And.intro (fun q => absurd q (by omega)) (fun _ => ?_)
      refine And.intro (by omega) ?_
      refine And.intro (by omega) ?_
      refine And.intro (rng_of (by omega) (by omega)) ?_
      refine ih (mm_updL r (i : Int) (s.2.2 25 (i : Int))) (fun e he => ?_)
      unfold mm_updL
      by_cases q : e = i
      · rw [if_pos (by omega), q]
      · rw [if_neg (by omega)]
        exact hr e (by omega)
  refine ⟨rfl, hK [2] _ _ _ _ _ _ ?_⟩
  exact loopC 0 (by omega) (s.2.2 18) (fun e he => by omega)
theorem m_X10_take (l : Launch) : mm_Met l yX10_take cX10_take 6 (some .boolean) 2 0 0 T_X10_take := mm_met (E := e_X10_take) (cd := kX10_take) s_X10_take (by decide) kX10_take_ok (by decide +kernel) (by decide +kernel) (Or.inr (Or.inr (Or.inl ⟨rfl, rfl⟩))) rfl (mm_eok_X10 _) (mm_calls_cons (mm_cbv wi_X10_clear (tb5 (i := 234) rfl rfl) (m_X10_clear l) (by decide) (by decide) rfl) (mm_calls_cons (mm_cbs wi_X10_cell (tb5 (i := 238) rfl rfl) (m_X10_cell l) (by decide) (by decide) rfl) (mm_calls_cons (mm_cbs wi_X10_isIn (tb6 (i := 177) rfl rfl) (m_X10_isIn l) (by decide) (by decide) rfl) (mm_calls_nil))))
