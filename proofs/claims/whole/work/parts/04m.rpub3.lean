/-! the reference: making and dividing -/
theorem gPost_r {w : FW} {s : RS} {f a : Nat} {V V' : Nat → Int64} {N : Option MV → HP → Prop} {N' : Option MV → HP → Prop} (h : gPost w s f a V N) (e : ∀ t, t < fD f → V t = V' t) (hN : ∀ (c : Prop) [Decidable c] (h' : HP), N (some (mI (bi c))) h' → N' (some (mI (bi c))) h') : gPost w s f a V' N' := by
  intro L h1 h2
  have h3 := h L h1 (slotS_congr (fun t ht => (e t ht).symm) h2)
  rw [small_congr e] at h3
  exact hN _ _ h3
def T_X10_does : Tr := fun av h N _ => ∃ (w : FW) (s : RS) (a : AS) (o x y z : Int), av = [mR 1000, mI o, mI x, mI y, mI z] ∧ h = hR w s ∧ RR a s ∧ canM (aF a) o x y z ∧ gPost w s (aF a) 32 (makV a o x y z) N
abbrev e_X10_does : NE := (ftX10, [(358, (4, 0, 0, false, (0, 10), T_X10_gauss)), (364, (5, 0, 0, false, (0, 10), T_X10_jacobi)), (361, (4, 0, 0, false, (0, 10), T_X10_kloosterman)), (349, (4, 0, 0, false, (0, 10), T_X10_period)), (330, (4, 0, 0, false, (0, 10), T_X10_move)), (417, (3, 0, 0, false, (0, 10), T_X10_spectrum)), (420, (3, 0, 0, false, (0, 10), T_X10_mellin)), (423, (3, 0, 0, false, (0, 10), T_X10_movings))], ltX10, [], [], false, 2, (0, 0), [], [], [], false)
set_option maxHeartbeats 4000000 in
theorem s_X10_does : mm_Spec e_X10_does kX10_does 5 T_X10_does := by
  rintro N X K av h hK ⟨w, s, a, o, x, y, z, rfl, rfl, hr, hc, h2⟩
  have hA := hr.2.1
  have hQ := hA.2.1
  have hb := fbase hr.1.1
  have hW : ∀ x, x < fQ (aF a) → s.2.1 26 (x : Int) = aW a x := hr.2.2.2.2.2.1
  have fin : ∀ (V : Nat → Int64) (N' : Option MV → HP → Prop), (∀ t, t < fD (aF a) → makV a o x y z t = V t) → (∀ (c : Prop) [Decidable c] (h' : HP), (bi c = 0 ∨ bi c = 1) ∧ N (some (mI (bi c))) h' → N' (some (mI (bi c))) h') → gPost w s (aF a) 32 V N' := fun V N' hV hN => gPost_r h2 hV (fun c _ h' hh => hN c h' ⟨bi_01 _, hh⟩)
  refine ⟨rfl, hK [] _ _ _ _ _ _ ?_⟩
  refine And.intro (fun q => ?_) ?_
  · rcases hc with h | h | h | h | h | h | h | h
    any_goals (have := h.1; omega)
    have h7 := h.2
    obtain ⟨n, rfl⟩ := Int.eq_ofNat_of_zero_le h7.1
    refine ⟨w, s, aF a, 32, n, rfl, rfl, hQ, by omega, by omega, fin _ _ (fun t _ => ?_) (fun c _ h' hh => hh)⟩
    unfold makV
    rw [if_neg (show ¬ o = 0 by omega), if_neg (show ¬ o = 1 by omega), if_neg (show ¬ o = 2 by omega), if_neg (show ¬ o = 3 by omega), if_neg (show ¬ o = 4 by omega), if_neg (show ¬ o = 5 by omega), if_neg (show ¬ o = 6 by omega)]
    rfl
  refine And.intro (fun (q : o = 0) => ?_) ?_
  · subst q
    rcases hc with h | h | h | h | h | h | h | h
    any_goals (have := h.1; omega)
    obtain ⟨m, rfl⟩ := Int.eq_ofNat_of_zero_le h.2.1.1
    obtain ⟨n, rfl⟩ := Int.eq_ofNat_of_zero_le h.2.2.1
    exact ⟨w, s, aF a, 32, m, n, rfl, rfl, hA, by omega, by omega, by omega, fin _ _ (fun t _ => rfl) (fun c _ h' hh => hh)⟩
  refine And.intro (fun (q : o = 1) => ?_) ?_
  · subst q
    rcases hc with h | h | h | h | h | h | h | h
    any_goals (have := h.1; omega)
    obtain ⟨m, rfl⟩ := Int.eq_ofNat_of_zero_le h.2.1.1
    obtain ⟨n, rfl⟩ := Int.eq_ofNat_of_zero_le h.2.2.1.1
    obtain ⟨k, rfl⟩ := Int.eq_ofNat_of_zero_le h.2.2.2.1
    exact ⟨w, s, aF a, 32, m, n, k, rfl, rfl, hA, by omega, by omega, by omega, by omega, fin _ _ (fun t _ => rfl) (fun c _ h' hh => hh)⟩
  refine And.intro (fun (q : o = 2) => ?_) ?_
  · subst q
    rcases hc with h | h | h | h | h | h | h | h
    any_goals (have := h.1; omega)
    obtain ⟨m, rfl⟩ := Int.eq_ofNat_of_zero_le h.2.1.1
    obtain ⟨n, rfl⟩ := Int.eq_ofNat_of_zero_le h.2.2.1
    exact ⟨w, s, aF a, 32, m, n, rfl, rfl, hA, by omega, by omega, by omega, fin _ _ (fun t _ => rfl) (fun c _ h' hh => hh)⟩
  refine And.intro (fun (q : o = 3) => ?_) ?_
  · subst q
    rcases hc with h | h | h | h | h | h | h | h
    any_goals (have := h.1; omega)
    obtain ⟨m, rfl⟩ := Int.eq_ofNat_of_zero_le (show 0 ≤ x by have := h.2.1; omega)
    obtain ⟨n, rfl⟩ := Int.eq_ofNat_of_zero_le h.2.2.2.1
    have h1 := h.2.1
    have hin := h.2.2.2.2
    have hm : m ≤ fQ (aF a) - 1 := by
      have h4 := h.2.2.1
      rw [show (fQ (aF a) : Int) - 1 = ((fQ (aF a) - 1 : Nat) : Int) by omega] at h4
      exact Nat.le_of_dvd (by omega) (Nat.dvd_of_mod_eq_zero (by omega))
    exact ⟨w, s, aF a, 32, m, n, rfl, rfl, hA, by omega, by omega, by omega, by omega, fin _ _ (fun t _ => rfl) (fun c _ h' hh => hh)⟩
  refine And.intro (fun (q : o = 4) => ?_) ?_
  · subst q
    rcases hc with h | h | h | h | h | h | h | h
    any_goals (have := h.1; omega)
    obtain ⟨m, rfl⟩ := Int.eq_ofNat_of_zero_le h.2.1.1
    obtain ⟨n, rfl⟩ := Int.eq_ofNat_of_zero_le h.2.2.1
    have h1 := h.2.1
    have h3 := h.2.2.2.1
    refine ⟨w, s, aF a, 32, m, n, rfl, rfl, hQ, by omega, by omega, by omega, fin _ _ (fun t _ => ?_) (fun c _ h' hh => hh)⟩
    exact (mvV_congr (slot_of hr (by omega)) n t).symm
  refine And.intro (fun (q : o = 5) => ?_) ?_
  · subst q
    rcases hc with h | h | h | h | h | h | h | h
    any_goals (have := h.1; omega)
    obtain ⟨m, rfl⟩ := Int.eq_ofNat_of_zero_le h.2.1
    refine ⟨w, s, aF a, 32, m, rfl, rfl, hA, by omega, by omega, fin _ _ (fun t _ => ?_) (fun c _ h' hh => hh)⟩
    refine sumL_congr _ (fun x hx => ?_)
    show tv _ (some (Int64.ofInt (aW a x), wvE (aF a) (fprd (aF a) m x))) t = tv _ (some (Int64.ofInt (s.2.1 26 (x : Int)), wvE (aF a) (fprd (aF a) m x))) t
    rw [hW x hx]
  refine And.intro (fun (q : o = 6) => ?_) ?_
  · subst q
    rcases hc with h | h | h | h | h | h | h | h
    any_goals (have := h.1; omega)
    obtain ⟨m, rfl⟩ := Int.eq_ofNat_of_zero_le h.2.1
    refine ⟨w, s, aF a, 32, m, rfl, rfl, hA, by omega, by omega, fin _ _ (fun t _ => ?_) (fun c _ h' hh => hh)⟩
    refine sumL_congr _ (fun x hx => ?_)
    show tv (aF a) (melT (aF a) (aW a) m x) t = tv (aF a) (melT (aF a) (fun x => s.2.1 26 (x : Int)) m x) t
    unfold melT
    cases chE (aF a) m x with
    | none => rfl
    | some e =>
      show tv _ (some (Int64.ofInt (aW a x), e)) t = tv _ (some (Int64.ofInt (s.2.1 26 (x : Int)), e)) t
      rw [hW x hx]
  trivial
theorem m_X10_does (l : Launch) : mm_Met l yX10_does cX10_does 5 (some .boolean) 4 0 0 T_X10_does := mm_met (E := e_X10_does) (cd := kX10_does) s_X10_does (by decide) kX10_does_ok (by decide +kernel) (by decide +kernel) (Or.inr (Or.inr (Or.inl ⟨rfl, rfl⟩))) rfl (mm_eok_X10 _) (mm_calls_cons (mm_cbv wi_X10_gauss (tb7 (i := 93) rfl rfl) (m_X10_gauss l) (by decide) (by decide) rfl) (mm_calls_cons (mm_cbv wi_X10_jacobi (tb7 (i := 109) rfl rfl) (m_X10_jacobi l) (by decide) (by decide) rfl) (mm_calls_cons (mm_cbv wi_X10_kloosterman (tb7 (i := 101) rfl rfl) (m_X10_kloosterman l) (by decide) (by decide) rfl) (mm_calls_cons (mm_cbv wi_X10_period (tb7 (i := 73) rfl rfl) (m_X10_period l) (by decide) (by decide) rfl) (mm_calls_cons (mm_cbv wi_X10_move (tb7 (i := 22) rfl rfl) (m_X10_move l) (by decide) (by decide) rfl) (mm_calls_cons (mm_cbv wi_X10_spectrum (tb7 (i := 220) rfl rfl) (m_X10_spectrum l) (by decide) (by decide) rfl) (mm_calls_cons (mm_cbv wi_X10_mellin (tb7 (i := 224) rfl rfl) (m_X10_mellin l) (by decide) (by decide) rfl) (mm_calls_cons (mm_cbv wi_X10_movings (tb7 (i := 228) rfl rfl) (m_X10_movings l) (by decide) (by decide) rfl) (mm_calls_nil)))))))))
theorem RR_setP {a : AS} {s : RS} {p : Nat} {V : Nat → Int} {v : Int → Int64} (h : RR a s) (hp : p < 8) (hV : ∀ t, t < fD (aF a) → -1000000 ≤ V t ∧ V t ≤ 1000000) (hv : ∀ i t : Nat, i < 8 → t < 256 → v (256 * (i : Int) + t) = if i = p then (if t < fD (aF a) then Int64.ofInt (V t) else 0) else s.2.2 24 (256 * (i : Int) + t)) : RR (aSetP a p V) (sL s 24 v) := by
  obtain ⟨⟨a0, a1, a2, a3⟩, h1, h2, h3, h4, h5⟩ := h
  refine ⟨⟨a0, fun i t hi ht => ?_, a2, a3⟩, h1, h2, h3, fun i t hi ht => ?_, h5⟩
  · show -1000000 ≤ (if i = p then V else aP a i) t ∧ (if i = p then V else aP a i) t ≤ 1000000
    by_cases q : i = p
    · rw [if_pos q]; exact hV t ht
    · rw [if_neg q]; exact a1 i t hi ht
  · show v (256 * (i : Int) + t) = if t < fD (aF a) then Int64.ofInt ((if i = p then V else aP a i) t) else 0
    rw [hv i t hi ht]
    by_cases q : i = p
    · rw [if_pos q, if_pos q]
    · rw [if_neg q, if_neg q]
      exact h4 i t hi ht
def T_X10_make : Tr := fun av h N _ => ∃ (w : FW) (s : RS) (a : AS) (p o x y z : Int), av = [mR 1000, mI p, mI o, mI x, mI y, mI z] ∧ h = hR w s ∧ RR a s ∧ mm_rng p ∧ mm_rng x ∧ mm_rng y ∧ mm_rng z ∧ RP w (xMake a p o x y z).1 (0, (xMake a p o x y z).2) N
abbrev e_X10_make : NE := (ftX10, [(370, (1, 0, 0, false, (1, 0), T_X10_isPlace)), (426, (5, 0, 0, false, (0, 10), T_X10_canMake)), (429, (5, 0, 0, false, (0, 10), T_X10_does)), (279, (3, 0, 0, false, (0, 10), T_X10_copy)), (380, (2, 0, 0, false, (0, 10), T_X10_filled))], ltX10, [], [], false, 1, (0, 0), [], [], [], false)
set_option maxHeartbeats 4000000 in
theorem s_X10_make : mm_Spec e_X10_make kX10_make 6 T_X10_make := by
  rintro N X K av h hK ⟨w, s, a, p, o, x, y, z, rfl, rfl, hr, hp, hx, hy, hz, h2⟩
  have hb := fbase hr.1.1
  have hno : ¬ (okP p ∧ canM (aF a) o x y z) → N (some (mI (-1))) (hR w (sI s 1 0)) := fun q => by
    have e : xMake a p o x y z = (a, -1) := by unfold xMake; rw [if_neg q]
    rw [e] at h2
    exact h2 _ hr rfl
  refine ⟨rfl, hK [] _ _ _ _ _ _ ?_⟩
  refine ⟨p, rfl, hp, ?_⟩
  refine And.intro (fun q1 => ?_) (fun q1 => ?_)
  · exact hno (fun z => bi_c0 q1 z.1)
  have q1 := bi_c1 q1
  refine ⟨w, sI s 1 0, a, o, x, y, z, rfl, rfl, hr, hx, hy, hz, ?_⟩
  refine And.intro (fun q2 => ?_) (fun q2 => ?_)
  · have q2 := bi_c1 q2
    obtain ⟨pn, rfl⟩ := Int.eq_ofNat_of_zero_le q1.1
    refine ⟨w, sI s 1 0, a, o, x, y, z, rfl, rfl, hr, q2, fun L hL hs => ?_⟩
    have hF := FW1_g (by omega) hL hs
    have hr' : RR a ((sI s 1 0).1, (sI s 1 0).2.1, L) := RR_fw (s := sI s 1 0) hr hF
    refine And.intro (fun q3 => ?_) (fun q3 => ?_)
    · have q3 := bi_c1 q3
      refine ⟨w, ((sI s 1 0).1, (sI s 1 0).2.1, L), pn, 32, rfl, rfl, by omega, by omega, fun v hv => ?_⟩
      have e : xMake a pn o x y z = (aSetP a pn (fun t => (makV a o x y z t).toInt), (nzc (makV a o x y z) (fD (aF a)) : Int)) := by unfold xMake; rw [if_pos ⟨q1, q2⟩, if_pos q3, Int.toNat_natCast]
      rw [e] at h2
      have hv2 : ∀ i t : Nat, i < 8 → t < 256 → v (256 * (i : Int) + t) = if i = pn then (if t < fD (aF a) then Int64.ofInt ((makV a o x y z t).toInt) else 0) else L 24 (256 * (i : Int) + t) := by
        intro i t hi ht
        rw [hv]
        by_cases q : i = pn
        · rw [if_pos (by omega), if_pos q, Int64.ofInt_toInt]
          show L 24 _ = _
          rw [hs, if_pos (by omega)]
          by_cases q4 : t < fD (aF a)
          · rw [if_pos (by omega), if_pos q4]
            congr 1
            omega
          · rw [if_neg (by omega), if_neg q4]
        · rw [if_neg (by omega), if_neg q]
      have hr2 := RR_setP hr' (p := pn) (by omega) q3 hv2
      refine ⟨w, sL ((sI s 1 0).1, (sI s 1 0).2.1, L) 24 v, aF a, pn, rfl, rfl, hr2.2.1.2.1, by omega, ?_⟩
      have h3 := h2 _ hr2 rfl
      rw [← nzc_congr (V := fun t => v (256 * (pn : Int) + t)) (fD (aF a)) (fun t ht => by rw [hv2 pn t (by omega) (by omega), if_pos rfl, if_pos ht, Int64.ofInt_toInt])] at h3
      exact h3
    · have q3 := bi_c0 q3
      have e : xMake a pn o x y z = (a, -2) := by unfold xMake; rw [if_pos ⟨q1, q2⟩, if_neg q3]
      rw [e] at h2
      exact h2 _ hr' rfl
  · exact hno (fun z => bi_c0 q2 z.2)
theorem m_X10_make (l : Launch) : mm_Met l yX10_make cX10_make 6 (some .int) 5 0 0 T_X10_make := mm_met (E := e_X10_make) (cd := kX10_make) s_X10_make (by decide) kX10_make_ok (by decide +kernel) (by decide +kernel) (Or.inr (Or.inl ⟨rfl, rfl⟩)) rfl (mm_eok_X10 _) (mm_calls_cons (mm_cbs wi_X10_isPlace (tb6 (i := 173) rfl rfl) (m_X10_isPlace l) (by decide) (by decide) rfl) (mm_calls_cons (mm_cbv wi_X10_canMake (tb7 (i := 212) rfl rfl) (m_X10_canMake l) (by decide) (by decide) rfl) (mm_calls_cons (mm_cbv wi_X10_does (tb7 (i := 216) rfl rfl) (m_X10_does l) (by decide) (by decide) rfl) (mm_calls_cons (mm_cbv wi_X10_copy (tb7 (i := 30) rfl rfl) (m_X10_copy l) (by decide) (by decide) rfl) (mm_calls_cons (mm_cbv wi_X10_filled (tb7 (i := 121) rfl rfl) (m_X10_filled l) (by decide) (by decide) rfl) (mm_calls_nil))))))
theorem l_div {x v : Int} (hx : -1000000 ≤ x ∧ x ≤ 1000000) (hv : mm_rng v) : Int64.ofInt x / Int64.ofInt v = Int64.ofInt (x.tdiv v) := by
  unfold mm_rng at hv
  have e1 : Int64.minValue.toInt = -9223372036854775808 := by decide
  have e2 : Int64.maxValue.toInt = 9223372036854775807 := by decide
  exact (Int64.ofInt_tdiv (by omega) (by omega) (by omega) (by omega)).symm
theorem l_rem {x v : Int} (hx : -1000000 ≤ x ∧ x ≤ 1000000) (hv : mm_rng v) : Int64.ofInt x - Int64.ofInt x / Int64.ofInt v * Int64.ofInt v = Int64.ofInt (x.tmod v) := by
  rw [l_div hx hv, ← Int64.ofInt_mul, ← Int64.ofInt_sub]
  congr 1
  have := Int.tmod_def x v
  rw [this, Int.mul_comm]
theorem tdiv_small {x v : Int} (hx : -1000000 ≤ x ∧ x ≤ 1000000) : -1000000 ≤ x.tdiv v ∧ x.tdiv v ≤ 1000000 := by
  have h : (x.tdiv v).natAbs = x.natAbs / v.natAbs := Int.natAbs_tdiv x v
  have h2 := Nat.div_le_self x.natAbs v.natAbs
  omega
theorem l_ne {v : Int} (hv : mm_rng v) (h : v ≠ 0) : Int64.ofInt v ≠ 0 := fun e => h (by
  have := congrArg Int64.toInt e
  rw [l_of hv] at this
  exact this)
def T_X10_divide_ : Tr := fun av h N _ => ∃ (w : FW) (s : RS) (a : AS) (p i v : Int), av = [mR 1000, mI p, mI i, mI v] ∧ h = hR w s ∧ RR a s ∧ mm_rng p ∧ mm_rng i ∧ mm_rng v ∧ RP w (xDivide a p i v).1 (0, (xDivide a p i v).2) N
abbrev e_X10_divide_ : NE := (ftX10, [(370, (1, 0, 0, false, (1, 0), T_X10_isPlace)), (184, (2, 0, 0, false, (1, 0), T_X10_cell)), (380, (2, 0, 0, false, (0, 10), T_X10_filled))], ltX10, [], [], false, 1, (0, 0), [], [], [], false)
set_option maxHeartbeats 4000000 in
theorem s_X10_divide_ : mm_Spec e_X10_divide_ kX10_divide_ 5 T_X10_divide_ := by
  rintro N X K av h hK ⟨w, s, a, p, i, v, rfl, rfl, hr, hp, hi, hv, h2⟩
  have hd : (sI s 1 0).1 15 = (fD (aF a) : Nat) := hr.2.1.2.1.2.2.1
  have hb := fbase hr.1.1
  have hno : ¬ (okP p ∧ okP i ∧ v ≠ 0 ∧ ∀ t, t < fD (aF a) → (aP a i.toNat t).tmod v = 0) → N (some (mI (-1))) (hR w (sI s 1 0)) := fun q => by
    have e : xDivide a p i v = (a, -1) := by unfold xDivide; rw [if_neg q]
    rw [e] at h2
    exact h2 _ hr rfl
  refine ⟨rfl, hK [28] _ _ _ _ _ _ ?_⟩
  refine ⟨p, rfl, hp, ?_⟩
  refine And.intro (fun q1 => ?_) (fun q1 => ?_)
  · exact hno (fun z => bi_c0 q1 z.1)
  have q1 := bi_c1 q1
  refine ⟨i, rfl, hi, ?_⟩
  refine And.intro (fun q2 => ?_) (fun q2 => ?_)
  · exact hno (fun z => bi_c0 q2 z.2.1)
  have q2 := bi_c1 q2
  refine And.intro (fun q3 => ?_) (fun q3 => ?_)
  · obtain ⟨pn, rfl⟩ := Int.eq_ofNat_of_zero_le q1.1
    obtain ⟨m, rfl⟩ := Int.eq_ofNat_of_zero_le q2.1
    rw [Int.toNat_natCast] at hno
    have hV : ∀ t : Nat, t < 256 → (sI s 1 0).2.2 24 (256 * (m : Int) + t) = if t < fD (aF a) then Int64.ofInt (aP a m t) else 0 := fun t ht => hr.2.2.2.2.1 m t (by omega) ht
    have hsm : ∀ t, t < fD (aF a) → -1000000 ≤ aP a m t ∧ aP a m t ≤ 1000000 := fun t ht => hr.1.2.1 m t (by omega) ht
    have loop2 : ∀ t : Nat, t ≤ 256 → (∀ u, u < fD (aF a) → (aP a m u).tmod v = 0) → ∀ z : Int → Int64, (∀ j u : Nat, j < 8 → u < 256 → z (256 * (j : Int) + u) = if j = pn ∧ u < t then (if u < fD (aF a) then Int64.ofInt ((aP a m u).tdiv v) else 0) else (sI s 1 0).2.2 24 (256 * (j : Int) + u)) → K 67 [some (mR 1000), some (mI (pn : Int)), some (mI (m : Int)), some (mI v), some (mI t)] [] (hR w (sL (sI s 1 0) 24 z)) 0 0 := by
      refine mm_for 256 (fun hall z hz => ?_) (fun t ht ih hall z hz => ?_)
      · have e : xDivide a pn m v = (aSetP a pn (fun t => (aP a m t).tdiv v), (nzc (vL (fun t => (aP a m t).tdiv v)) (fD (aF a)) : Int)) := by unfold xDivide; rw [if_pos ⟨q1, q2, q3, hall⟩]; rfl
        rw [e] at h2
        have hr2 := RR_setP (s := sI s 1 0) (v := z) hr (p := pn) (V := fun t => (aP a m t).tdiv v) (by omega) (fun t ht => tdiv_small (hsm t ht)) (fun j u hj hu => by
          rw [hz j u hj hu]
          by_cases q : j = pn
          · rw [if_pos ⟨q, hu⟩, if_pos q]
          · rw [if_neg (fun z => q z.1), if_neg q])
        refine hK [67] _ _ _ _ _ _ ?_
        refine And.intro (fun _ => ?_) (fun q => absurd q (by omega))
        refine ⟨w, sL (sI s 1 0) 24 z, aF a, pn, rfl, rfl, hr2.2.1.2.1, by omega, ?_⟩
        have h3 := h2 _ hr2 rfl
        rw [← nzc_congr (V := fun t => z (256 * (pn : Int) + t)) (fD (aF a)) (fun t ht => by rw [hz pn t (by omega) (by omega), if_pos ⟨rfl, by omega⟩, if_pos ht])] at h3
        exact h3
      · refine hK [67] _ _ _ _ _ _ ?_
        refine And.intro (fun q => absurd q (by omega)) (fun _ => ?_)
        refine ⟨pn, t, rfl, by omega, by omega, by omega, by omega, ?_⟩
        refine ⟨m, t, rfl, by omega, by omega, by omega, by omega, ?_⟩
        refine And.intro (by omega) ?_
        refine And.intro (l_ne hv q3) ?_
        refine And.intro (by omega) ?_
        refine And.intro (rng_of (by omega) (by omega)) ?_
        have hzm : z (256 * (m : Int) + t) / Int64.ofInt v = if t < fD (aF a) then Int64.ofInt ((aP a m t).tdiv v) else 0 := by
          rw [hz m t (by omega) ht, if_neg (by omega), hV t ht]
          by_cases q : t < fD (aF a)
          · rw [if_pos q, if_pos q, l_div (hsm t q) hv]
          · rw [if_neg q, if_neg q]
            have := l_div (x := 0) (by omega) hv
            rw [Int.zero_tdiv] at this
            exact this
        refine ih hall (mm_updL z (256 * (pn : Int) + t) (z (256 * (m : Int) + t) / Int64.ofInt v)) (fun j u hj hu => ?_)
        rw [hzm]
        unfold mm_updL
        by_cases q : j = pn ∧ u = t
        · rw [if_pos (show (256 * (j : Int) + u) = 256 * (pn : Int) + t by omega), if_pos (show j = pn ∧ u < t + 1 by omega), q.2]
        · rw [if_neg (by omega), hz j u hj hu]
          by_cases q5 : j = pn ∧ u < t
          · rw [if_pos q5, if_pos (show j = pn ∧ u < t + 1 by omega)]
          · rw [if_neg q5, if_neg (show ¬ (j = pn ∧ u < t + 1) by omega)]
    have loop1 : ∀ t : Nat, t ≤ fD (aF a) → (∀ u, u < t → (aP a m u).tmod v = 0) → K 28 [some (mR 1000), some (mI (pn : Int)), some (mI (m : Int)), some (mI v), some (mI t)] [] (hR w (sI s 1 0)) 0 0 := by
      refine mm_for (fD (aF a)) (fun hall => ?_) (fun t ht ih hall => ?_)
      · refine hK [28, 67] _ _ _ _ _ _ ?_
        refine And.intro (fun _ => ?_) (fun q => absurd q (by omega))
        exact loop2 0 (by omega) hall _ (fun j u hj hu => by rw [if_neg (by omega)])
      · refine hK [28, 67] _ _ _ _ _ _ ?_
        refine And.intro (fun q => absurd q (by omega)) (fun _ => ?_)
        refine ⟨m, t, rfl, by omega, by omega, by omega, by omega, ?_⟩
        refine And.intro (by omega) ?_
        conv => whnf
        refine And.intro (l_ne hv q3) ?_
        have e := hV t (by omega)
        rw [if_pos ht] at e
        rw [show (sI s 1 0).2.2 24 (256 * (m : Int) + t) = Int64.ofInt (aP a m t) from e, l_rem (hsm t ht) hv]
        have htm : mm_rng ((aP a m t).tmod v) := by
          have h1 := hsm t ht
          have h3 := Int.natAbs_tmod (aP a m t) v
          have h4 := Nat.mod_le (aP a m t).natAbs v.natAbs
          exact rng_of (by omega) (by omega)
        refine And.intro (fun z => ?_) (fun z => ?_)
        · have z := (cmp_eq _ _).mp z
          refine And.intro (rng_of (by omega) (by omega)) ?_
          refine ih (fun u hu => ?_)
          by_cases q : u = t
          · rw [q]
            have := congrArg Int64.toInt z
            rw [l_of htm] at this
            exact this
          · exact hall u (by omega)
        · exact hno (fun zz => z ((cmp_eq _ _).mpr (by rw [zz.2.2.2 t ht]; rfl)))
    exact loop1 0 (by omega) (fun u hu => by omega)
  · exact hno (fun z => z.2.2.1 q3)
theorem m_X10_divide_ (l : Launch) : mm_Met l yX10_divide_ cX10_divide_ 5 (some .int) 2 0 0 T_X10_divide_ := mm_met (E := e_X10_divide_) (cd := kX10_divide_) s_X10_divide_ (by decide) kX10_divide__ok (by decide +kernel) (by decide +kernel) (Or.inr (Or.inl ⟨rfl, rfl⟩)) rfl (mm_eok_X10 _) (mm_calls_cons (mm_cbs wi_X10_isPlace (tb6 (i := 173) rfl rfl) (m_X10_isPlace l) (by decide) (by decide) rfl) (mm_calls_cons (mm_cbs wi_X10_cell (tb5 (i := 238) rfl rfl) (m_X10_cell l) (by decide) (by decide) rfl) (mm_calls_cons (mm_cbv wi_X10_filled (tb7 (i := 121) rfl rfl) (m_X10_filled l) (by decide) (by decide) rfl) (mm_calls_nil))))
