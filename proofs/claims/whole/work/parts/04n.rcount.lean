/-! the reference: what is counted -/
theorem i32_nat (n : Nat) : Int32.ofInt (n : Int) = nI n := Int32.ofInt_eq_ofNat
theorem nI_ti {n : Nat} (h : n < 2147483648) : (nI n).toInt = (n : Int) := by
  rw [← i32_nat, Int32.toInt_ofInt_of_le (by omega) (by omega)]
theorem sm31 : ∀ x : Fin 32, ((nI x.val &&& 31).toBitVec.smod 32).toNat = x.val := by decide +kernel
theorem shr_nat {s x : Nat} (hs : s < 2147483648) (hx : x < 32) : mm_shr (s : Int) (x : Int) = ((s / 2 ^ x : Nat) : Int) := by
  unfold mm_shr
  rw [i32_nat, i32_nat, pk_shrN hs _ x (sm31 ⟨x, hx⟩), nI_ti (Nat.lt_of_le_of_lt (Nat.div_le_self _ _) hs)]
theorem and1_nat {s : Nat} (hs : s < 2147483648) : mm_and (s : Int) 1 = ((s % 2 : Nat) : Int) := by
  unfold mm_and
  rw [i32_nat, show Int32.ofInt 1 = 1 from rfl, pk_andN (m := 1) (by omega) 1 (by decide), nI_ti (by omega)]
theorem shl1 : ∀ q : Fin 28, mm_shl 1 (q.val : Int) = (2 : Int) ^ q.val := by decide +kernel
theorem two28 {q : Nat} (h : q ≤ 27) : (2 : Int) ^ q ≤ 134217728 := by
  have : ∀ q : Fin 28, (2 : Int) ^ q.val ≤ 134217728 := by decide +kernel
  exact this ⟨q, by omega⟩
def T_X10_isOf : Tr := fun av h N _ => ∃ s x : Nat, av = [mI s, mI x] ∧ s < 2147483648 ∧ x < 32 ∧ N (some (mI (ind (bitB s x) : Nat))) h
abbrev e_X10_isOf : NE := (ftX10, [], ltX10, [], [], false, 2, (0, 0), [], [], [], false)
theorem ind_t {b : Bool} (h : b = true) : ((ind b : Nat) : Int) = 1 := by rw [h]; rfl
theorem ind_f {b : Bool} (h : b = false) : ((ind b : Nat) : Int) = 0 := by rw [h]; rfl
theorem ind_01 (b : Bool) : ((ind b : Nat) : Int) = 0 ∨ ((ind b : Nat) : Int) = 1 := by cases b <;> simp [ind]
theorem ind_le (b : Bool) : ind b ≤ 1 := by cases b <;> simp [ind]
theorem ind_e0 {b : Bool} (h : ((ind b : Nat) : Int) = 0) : b = false := by cases b with
  | true => cases h
  | false => rfl
theorem ind_n0 {b : Bool} (h : ¬ ((ind b : Nat) : Int) = 0) : b = true := by cases b with
  | true => rfl
  | false => exact absurd rfl h
theorem s_X10_isOf : mm_Spec e_X10_isOf kX10_isOf 2 T_X10_isOf := by
  rintro N X K av h hK ⟨s, x, rfl, hs, hx, h2⟩
  refine ⟨rfl, hK [] _ _ _ _ _ _ ?_⟩
  conv => whnf
  rw [shr_nat hs hx, and1_nat (Nat.lt_of_le_of_lt (Nat.div_le_self _ _) hs)]
  refine And.intro (fun q => ?_) (fun q => ?_)
  · rw [ind_f (show bitB s x = false from bfalse (by omega))] at h2
    exact And.intro (Or.inl rfl) h2
  · rw [ind_t (show bitB s x = true by unfold bitB; rw [show s / 2 ^ x % 2 = 1 by omega]; rfl)] at h2
    exact And.intro (Or.inr rfl) h2
theorem m_X10_isOf (l : Launch) : mm_Met l yX10_isOf cX10_isOf 2 (some .boolean) 0 0 0 T_X10_isOf := mm_met (E := e_X10_isOf) (cd := kX10_isOf) s_X10_isOf (by decide) kX10_isOf_ok (by decide +kernel) (by decide +kernel) (Or.inr (Or.inr (Or.inl ⟨rfl, rfl⟩))) rfl (mm_eok_X10 _) (mm_calls_nil)
def T_X10_isSet : Tr := fun av h N _ => ∃ (w : FW) (s : RS) (x : Int) (q : Nat), av = [mR 1000, mI x] ∧ h = hR w s ∧ mm_rng x ∧ s.1 4 = q ∧ q ≤ 27 ∧ N (some (mI (bi (0 ≤ x ∧ x < (2 : Int) ^ q)))) h
abbrev e_X10_isSet : NE := (ftX10, [], ltX10, [], [], false, 2, (0, 0), [], [], [], false)
theorem s_X10_isSet : mm_Spec e_X10_isSet kX10_isSet 2 T_X10_isSet := by
  rintro N X K av h hK ⟨w, s, x, q, rfl, rfl, hx, hq, hq27, h2⟩
  refine ⟨rfl, hK [] _ _ _ _ _ _ ?_⟩
  refine And.intro (fun z => ?_) (fun z => ?_)
  · rw [bi_f (by omega)] at h2
    exact And.intro (Or.inl rfl) h2
  · conv => whnf
    rw [hq, shl1 ⟨q, by omega⟩]
    refine And.intro (fun z2 => ?_) (fun z2 => ?_)
    · rw [bi_f (fun hh => absurd hh.2 (Int.not_lt.mpr z2))] at h2
      exact And.intro (Or.inl rfl) h2
    · rw [bi_t ⟨z, z2⟩] at h2
      exact And.intro (Or.inr rfl) h2
theorem m_X10_isSet (l : Launch) : mm_Met l yX10_isSet cX10_isSet 2 (some .boolean) 0 0 0 T_X10_isSet := mm_met (E := e_X10_isSet) (cd := kX10_isSet) s_X10_isSet (by decide) kX10_isSet_ok (by decide +kernel) (by decide +kernel) (Or.inr (Or.inr (Or.inl ⟨rfl, rfl⟩))) rfl (mm_eok_X10 _) (mm_calls_nil)
theorem prime_c : (List.range 9).all (fun j => (List.range 5).all (fun k => Nat.beq k 0 || (if (mm_primes j) ^ k ≤ 27 then (match fOf (mm_primes j) k with | some f => decide (mm_primes j = (fP f : Int) ∧ (k : Int) = fK f ∧ f < 15) | none => false) else decide (fOf (mm_primes j) k = none)))) = true := by decide +kernel
theorem fP_prime : fevery (fun f => (List.range 9).any (fun j => decide (mm_primes j = (fP f : Int)))) = true := by decide +kernel
theorem fOf_some {p k : Int} {f : Nat} (h : fOf p k = some f) : f < 15 ∧ p = fP f ∧ k = fK f := by
  unfold fOf at h
  have h1 := List.find?_some h
  have h2 := List.mem_of_find?_eq_some h
  exact ⟨List.mem_range.mp h2, (of_decide_eq_true h1).1, (of_decide_eq_true h1).2⟩
theorem fOf_none {p k : Int} (h : fOf p k = none) : ∀ f, f < 15 → ¬ (p = fP f ∧ k = fK f) := by
  intro f hf hh
  unfold fOf at h
  have := List.find?_eq_none.mp h f (List.mem_range.mpr hf)
  exact this (decide_eq_true hh)
def T_X10_field : Tr := fun av h N _ => ∃ (w : FW) (s : RS) (a : AS) (p k : Int), av = [mR 1000, mI p, mI k] ∧ h = hR w s ∧ RR a s ∧ mm_rng p ∧ mm_rng k ∧ RP w (xField a p k).1 (0, (xField a p k).2) N
abbrev e_X10_field : NE := (ftX10, [(162, (3, 0, 0, false, (1, 0), T_X10_isIn)), (110, (2, 0, 0, false, (1, 0), T_X10_powerOf)), (100, (3, 0, 0, false, (0, 10), T_X10_begin))], ltX10, [], [], false, 1, (0, 0), [], [], [], false)
theorem s_X10_field : mm_Spec e_X10_field kX10_field 5 T_X10_field := by
  rintro N X K av h hK ⟨w, s, a, p, k, rfl, rfl, hr, hp, hk, h2⟩
  have hpr : ∀ j : Nat, j < 9 → (sI s 1 0).2.1 0 (j : Int) = mm_primes j := hr.2.2.2.2.2.2.2.2.2.2.2
  have hno : fOf p k = none → N (some (mI (-1))) (hR w (sI s 1 0)) := fun e => by
    unfold xField at h2
    rw [e] at h2
    exact h2 _ hr rfl
  have loop : ∀ i : Nat, i ≤ 9 → ∀ g : Int, (g = 0 ∨ g = 1) → (g = 1 → ∃ j, j < 9 ∧ mm_primes (j : Nat) = p) → (g = 0 → ∀ j : Nat, j < i → mm_primes j ≠ p) → K 10 [some (mR 1000), some (mI p), some (mI k), some (mI g), some (mI i)] [] (hR w (sI s 1 0)) 0 0 := by
    refine mm_for 9 (fun g hg h1 h0 => ?_) (fun i hi ih g hg h1 h0 => ?_)
    · refine hK [10] _ _ _ _ _ _ ?_
      refine And.intro (fun _ => ?_) (fun q => absurd q (by omega))
      have hnp : g = 0 → fOf p k = none := fun e => by
        cases hz : fOf p k with
        | none => rfl
        | some f =>
          obtain ⟨f1, f2, f3⟩ := fOf_some hz
          have := fevery_at fP_prime f1
          obtain ⟨j, hj, hj2⟩ := List.any_eq_true.mp this
          exact absurd ((of_decide_eq_true hj2).trans f2.symm) (h0 e j (List.mem_range.mp hj))
      refine And.intro (fun q => hno (hnp q)) (fun q => ?_)
      obtain ⟨j, hj, rfl⟩ := h1 (hg.resolve_left q)
      refine ⟨_, _, _, rfl, ?_⟩
      rw [l_1, l_of hk, lc4]
      refine And.intro (fun q2 => hno ?_) (fun q2 => ?_)
      · have q2 := bi_c0 q2
        cases hz : fOf (mm_primes j) k with
        | none => rfl
        | some f =>
          obtain ⟨f1, f2, f3⟩ := fOf_some hz
          have hb := fbase f1
          exact absurd (show 1 ≤ k ∧ k ≤ 4 by omega) q2
      · have q2 := bi_c1 q2
        obtain ⟨n, rfl⟩ := Int.eq_ofNat_of_zero_le (show 0 ≤ k by omega)
        have hc := List.all_eq_true.mp (List.all_eq_true.mp prime_c j (List.mem_range.mpr hj)) n (List.mem_range.mpr (by omega))
        have hpj : ∃ m : Nat, mm_primes j = (m : Int) ∧ m ≤ 23 := by
          have hh : ∀ j : Fin 9, ∃ m : Fin 24, mm_primes (j.val : Nat) = (m.val : Int) := by decide +kernel
          obtain ⟨m, hm⟩ := hh ⟨j, hj⟩
          exact ⟨m.val, hm, by omega⟩
        obtain ⟨m, hm, hm23⟩ := hpj
        rw [bfalse (show n ≠ 0 by omega), Bool.false_or] at hc
        refine ⟨m, n, by rw [hm]; rfl, by omega, by omega, ?_⟩
        have hpw : (mm_primes j) ^ n = ((m ^ n : Nat) : Int) := by rw [hm]; exact (Int.natCast_pow m n).symm
        rw [hpw] at hc
        refine And.intro (fun q3 => ?_) (fun q3 => hno ?_)
        · rw [if_pos (by omega)] at hc
          cases hz : fOf (mm_primes j) n with
          | none => rw [hz] at hc; cases hc
          | some f =>
            rw [hz] at hc
            obtain ⟨c1, c2, c3⟩ := of_decide_eq_true hc
            refine ⟨w, sI s 1 0, f, by rw [c1, c2]; rfl, rfl, c3, fun s' hF hB => ?_⟩
            unfold xField at h2
            rw [hz] at h2
            obtain ⟨bA, b5, b6, b24, b26⟩ := hB
            have hb := fbase c3
            obtain ⟨⟨-, -, -, a3, a4, a5, a6⟩, -, -, -, -, -, r6, r7, r8, r9, r10, r11⟩ := hr
            refine h2 s' ⟨⟨c3, fun i t _ _ => ⟨by show (-1000000 : Int) ≤ 0; omega, by show (0 : Int) ≤ 1000000; omega⟩, fun x _ => ⟨by show (-99 : Int) ≤ 0; omega, by show (0 : Int) ≤ 99; omega⟩, a3, a4, a5, a6⟩, bA, b5, b6, fun i t hi ht => ?_, fun x hx => b26 x (by show x < 27; have : x < fQ f := hx; omega), ?_, ?_, ?_, ?_, ?_, ?_⟩ ?_
            · have := b24 (256 * i + t) (by omega)
              rw [show ((256 * i + t : Nat) : Int) = 256 * (i : Int) + t by omega] at this
              show s'.2.2 24 (256 * (i : Int) + t) = if t < fD f then Int64.ofInt 0 else 0
              rw [this]
              by_cases q : t < fD f
              · rw [if_pos q]; rfl
              · rw [if_neg q]
            · rw [hF.1 28 rfl]; exact r6
            · rw [hF.2.1 27 rfl]; exact r7
            · rw [hF.1 36 rfl]; exact r8
            · rw [hF.1 52 rfl]; exact r9
            · rw [hF.2.1 51 rfl]; exact r10
            · rw [hF.2.1 0 rfl]; exact r11
            · rw [hF.1 1 rfl]; rfl
        · rw [if_neg (by omega)] at hc
          exact of_decide_eq_true hc
    · refine hK [10] _ _ _ _ _ _ ?_
      refine And.intro (fun q => absurd q (by omega)) (fun _ => ?_)
      rcases hg with rfl | rfl
      · refine And.intro (fun q => absurd q (by omega)) (fun _ => ?_)
        refine And.intro (by omega) ?_
        conv => whnf
        rw [hpr i hi]
        refine And.intro (fun q => ?_) (fun q => ?_)
        · refine And.intro (rng_of (by omega) (by omega)) ?_
          refine ih 0 (Or.inl rfl) (fun e => by cases e) (fun _ j hj => ?_)
          by_cases z : j = i
          · rw [z]; exact q
          · exact h0 rfl j (by omega)
        · refine And.intro (rng_of (by omega) (by omega)) ?_
          exact ih 1 (Or.inr rfl) (fun _ => ⟨i, hi, q⟩) (fun e => by cases e)
      · refine And.intro (fun _ => ?_) (fun q => absurd q (by omega))
        refine And.intro (rng_of (by omega) (by omega)) ?_
        exact ih 1 (Or.inr rfl) h1 (fun e => by cases e)
  refine ⟨rfl, hK [10] _ _ _ _ _ _ ?_⟩
  exact loop 0 (by omega) 0 (Or.inl rfl) (fun e => by cases e) (fun _ j hj => by omega)
theorem m_X10_field (l : Launch) : mm_Met l yX10_field cX10_field 5 (some .int) 5 0 0 T_X10_field := mm_met (E := e_X10_field) (cd := kX10_field) s_X10_field (by decide) kX10_field_ok (by decide +kernel) (by decide +kernel) (Or.inr (Or.inl ⟨rfl, rfl⟩)) rfl (mm_eok_X10 _) (mm_calls_cons (mm_cbs wi_X10_isIn (tb6 (i := 177) rfl rfl) (m_X10_isIn l) (by decide) (by decide) rfl) (mm_calls_cons (mm_cbs wi_X10_powerOf (tb5 (i := 186) rfl rfl) (m_X10_powerOf l) (by decide) (by decide) rfl) (mm_calls_cons (mm_cbv wi_X10_begin (tb5 (i := 182) rfl rfl) (m_X10_begin l) (by decide) (by decide) rfl) (mm_calls_nil))))
def T_X10_layPowers : Tr := fun av h N _ => ∃ (w : FW) (s : RS) (f n : Nat), av = [mR 1000, mI n] ∧ h = hR w s ∧ RT f s ∧ n < 1000 ∧ ∀ v : Int → Int, (∀ x : Nat, x < fQ f → v x = (pw f x n : Nat)) → N none (hR w (sA s 43 v))
abbrev e_X10_layPowers : NE := (ftX10, [(159, (3, 0, 0, false, (0, 10), T_X10_raise))], ltX10, [], [], false, 0, (0, 0), [], [], [], false)
theorem s_X10_layPowers : mm_Spec e_X10_layPowers kX10_layPowers 3 T_X10_layPowers := by
  rintro N X K av h hK ⟨w, s, f, n, rfl, rfl, hT, hn, h2⟩
  have hf := hT.1
  obtain ⟨b1, b2, b3, b4, b5, b6, b7, b8, b9, b10, b11, b12⟩ := fbase hf
  have loop : ∀ x : Nat, x ≤ fQ f → ∀ v : Int → Int, (∀ y : Nat, y < x → v y = (pw f y n : Nat)) → K 2 [some (mR 1000), some (mI n), some (mI x)] [] (hR w (sA s 43 v)) 0 0 := by
    refine mm_for (fQ f) (fun v hv => ?_) (fun x hx ih v hv => ?_)
    · have hq : (sA s 43 v).1 4 = (fQ f : Nat) := hT.2.2.2.1
      refine hK [2] _ _ _ _ _ _ ?_
      refine And.intro (fun _ => ?_) (fun q => absurd q (by omega))
      exact h2 v hv
    · have hq : (sA s 43 v).1 4 = (fQ f : Nat) := hT.2.2.2.1
      refine hK [2] _ _ _ _ _ _ ?_
      refine And.intro (fun q => absurd q (by omega)) (fun _ => ?_)
      refine ⟨w, sA s 43 v, f, x, n, rfl, rfl, hT, hx, hn, ?_⟩
      refine And.intro (by omega) ?_
      refine And.intro (rng_of (by omega) (by omega)) ?_
      refine ih (mm_upd v (x : Int) (pw f x n : Nat)) (fun y hy => ?_)
      unfold mm_upd
      by_cases q : y = x
      · rw [if_pos (by omega), q]
      · rw [if_neg (by omega)]; exact hv y (by omega)
  refine ⟨rfl, hK [2] _ _ _ _ _ _ ?_⟩
  exact loop 0 (by omega) (s.2.1 43) (fun y hy => by omega)
theorem m_X10_layPowers (l : Launch) : mm_Met l yX10_layPowers cX10_layPowers 3 none 2 0 0 T_X10_layPowers := mm_met (E := e_X10_layPowers) (cd := kX10_layPowers) s_X10_layPowers (by decide) kX10_layPowers_ok (by decide +kernel) (by decide +kernel) (Or.inl ⟨rfl, rfl⟩) rfl (mm_eok_X10 _) (mm_calls_cons (mm_cbv wi_X10_raise (tb5 (i := 221) rfl rfl) (m_X10_raise l) (by decide) (by decide) rfl) (mm_calls_nil))
theorem sumN_le {g : Nat → Nat} {M : Nat} (h : ∀ x, g x ≤ M) : ∀ n, sumN g n ≤ n * M
  | 0 => by simp [sumN]
  | n + 1 => by
    have := sumN_le h n
    have h2 := h n
    show sumN g n + g n ≤ _
    rw [Nat.add_mul]
    omega
theorem sumN_s (g : Nat → Nat) (n : Nat) : sumN g (n + 1) = sumN g n + g n := rfl
theorem sumN_le27 {g : Nat → Nat} {M n : Nat} (h : ∀ x, g x ≤ M) (hn : n ≤ 27) : sumN g n ≤ 27 * M := Nat.le_trans (sumN_le h n) (Nat.mul_le_mul_right M hn)
theorem RP_at {w : FW} {a : AS} {r : Nat × Int} {N : Option MV → HP → Prop} {s : RS} {c : Nat} {v v' : Int} (h : RP w a r N) (hr : RR a s) (hz : r = (c, v)) (hc : s.1 1 = (c : Nat)) (e : v' = v) : N (some (mI v')) (hR w s) := by
  rw [hz] at h
  rw [e]
  exact h _ hr hc
theorem lc30 : ((30 : Int64)).toInt = 30 := by decide
theorem lc6 : ((6 : Int64)).toInt = 6 := by decide
theorem lc99 : ((99 : Int64)).toInt = 99 := by decide
theorem lcm99 : ((-99 : Int64)).toInt = -99 := by decide
def T_X10_curve : Tr := fun av h N _ => ∃ (w : FW) (s : RS) (a : AS) (x y : Int), av = [mR 1000, mI x, mI y] ∧ h = hR w s ∧ RR a s ∧ mm_rng x ∧ mm_rng y ∧ RP w a (xCurve (aF a) x y) N
abbrev e_X10_curve : NE := (ftX10, [(387, (2, 0, 0, false, (0, 10), T_X10_isElement)), (373, (2, 0, 0, false, (0, 10), T_X10_fail)), (159, (3, 0, 0, false, (0, 10), T_X10_raise)), (126, (3, 0, 0, false, (0, 10), T_X10_productOf)), (139, (3, 0, 0, false, (0, 10), T_X10_sumOf))], ltX10, [], [], false, 1, (0, 0), [], [], [], false)
set_option maxHeartbeats 4000000 in
theorem s_X10_curve : mm_Spec e_X10_curve kX10_curve 7 T_X10_curve := by
  rintro N X K av h hK ⟨w, s, a, x, y, rfl, rfl, hr, hx, hy, h2⟩
  have hT : RT (aF a) (sI s 1 0) := hr.2.1.1
  obtain ⟨f, hf0⟩ : ∃ f, f = aF a := ⟨_, rfl⟩
  have hf : f < 15 := by rw [hf0]; exact hr.1.1
  rw [← hf0] at hT h2
  have hq : (sI s 1 0).1 4 = (fQ f : Nat) := hT.2.2.2.1
  obtain ⟨b1, b2, b3, b4, b5, b6, b7, b8, b9, b10, b11, b12⟩ := fbase hf
  have hno : ¬ (okE f x ∧ okE f y) → xCurve f x y = (1, 0) := fun q => by unfold xCurve; rw [if_neg q]
  refine ⟨rfl, hK [32] _ _ _ _ _ _ ?_⟩
  refine ⟨w, sI s 1 0, x, fQ f, rfl, rfl, hx, hq, by omega, ?_⟩
  refine And.intro (fun q1 => ?_) (fun q1 => ?_)
  · exact ⟨w, sI s 1 0, 1, rfl, rfl, RP_fail h2 hr (hno (fun z => bi_c0 q1 z.1))⟩
  have q1 := bi_c1 q1
  refine ⟨w, sI s 1 0, y, fQ f, rfl, rfl, hy, hq, by omega, ?_⟩
  refine And.intro (fun q2 => ?_) (fun q2 => ?_)
  · have q2 := bi_c1 q2
    obtain ⟨m, rfl⟩ := Int.eq_ofNat_of_zero_le q1.1
    obtain ⟨n, rfl⟩ := Int.eq_ofNat_of_zero_le q2.1
    have hxx : xCurve f m n = (0, (crvN f m n : Int)) := by unfold xCurve; rw [if_pos ⟨q1, q2⟩]; rfl
    have hm : m < fQ f := by omega
    have hn : n < fQ f := by omega
    have hIle : ∀ i, sumN (fun y => ind (Nat.beq (fprd f y y) (fsum f (fsum f (pw f i 3) (fprd f m i)) n))) (fQ f) ≤ 27 := fun i => by
      have := sumN_le27 (g := fun y => ind (Nat.beq (fprd f y y) (fsum f (fsum f (pw f i 3) (fprd f m i)) n))) (M := 1) (n := fQ f) (fun _ => ind_le _) b1
      omega
    have loopX : ∀ i : Nat, i ≤ fQ f → ∀ o5 o6 : Option MV, K 32 [some (mR 1000), some (mI m), some (mI n), some (mI (sumN (fun x => sumN (fun y => ind (Nat.beq (fprd f y y) (fsum f (fsum f (pw f x 3) (fprd f m x)) n))) (fQ f)) i : Nat)), some (mI i), o5, o6] [] (hR w (sI s 1 0)) 0 0 := by
      refine mm_for (fQ f) (fun o5 o6 => ?_) (fun i hi ih o5 o6 => ?_)
      · refine hK [32] _ _ _ _ _ _ ?_
        refine And.intro (fun _ => ?_) (fun q => absurd q (by omega))
        exact RP_ok h2 hr hxx rfl
      · have hp := pw_lt hf hi 3
        have hpr := fprd_lt hf hm hi
        have hs1 := fsum_lt hf hp hpr
        have hs2 := fsum_lt hf hs1 hn
        have hle := sumN_le27 (g := fun x => sumN (fun y => ind (Nat.beq (fprd f y y) (fsum f (fsum f (pw f x 3) (fprd f m x)) n))) (fQ f)) (M := 27) (n := i) hIle (by omega)
        rw [sumN_s] at ih
        generalize sumN (fun x => sumN (fun y => ind (Nat.beq (fprd f y y) (fsum f (fsum f (pw f x 3) (fprd f m x)) n))) (fQ f)) i = A at ih hle ⊢
        have loopY : ∀ j : Nat, j ≤ fQ f → K 69 [some (mR 1000), some (mI m), some (mI n), some (mI (A + sumN (fun y => ind (Nat.beq (fprd f y y) (fsum f (fsum f (pw f i 3) (fprd f m i)) n))) j : Nat)), some (mI i), some (mI (fsum f (fsum f (pw f i 3) (fprd f m i)) n : Nat)), some (mI j)] [] (hR w (sI s 1 0)) 0 0 := by
          refine mm_for (fQ f) ?_ (fun j hj ihj => ?_)
          · refine hK [32, 69] _ _ _ _ _ _ ?_
            refine And.intro (fun _ => ?_) (fun q => absurd q (by omega))
            refine And.intro (rng_of (by omega) (by omega)) ?_
            exact ih _ _
          · have hle2 := sumN_le27 (g := fun y => ind (Nat.beq (fprd f y y) (fsum f (fsum f (pw f i 3) (fprd f m i)) n))) (M := 1) (n := j) (fun _ => ind_le _) (by omega)
            rw [sumN_s] at ihj
            generalize sumN (fun y => ind (Nat.beq (fprd f y y) (fsum f (fsum f (pw f i 3) (fprd f m i)) n))) j = B at ihj hle2 ⊢
            refine hK [32, 69] _ _ _ _ _ _ ?_
            refine And.intro (fun q => absurd q (by omega)) (fun _ => ?_)
            refine ⟨w, sI s 1 0, j, j, rfl, rfl, ⟨by omega, by omega, by omega, by omega⟩, ?_⟩
            rw [hT.2.2.2.2.2 j j hj hj]
            refine And.intro (fun q => ?_) (fun q => ?_)
            · rw [show ind (Nat.beq (fprd f j j) (fsum f (fsum f (pw f i 3) (fprd f m i)) n)) = 0 by rw [bfalse (by omega)]; rfl] at ihj
              refine And.intro (rng_of (by omega) (by omega)) ?_
              refine And.intro (rng_of (by omega) (by omega)) ?_
              conv => whnf
              rw [Int.add_zero]
              exact ihj
            · rw [show ind (Nat.beq (fprd f j j) (fsum f (fsum f (pw f i 3) (fprd f m i)) n)) = 1 by rw [show fprd f j j = fsum f (fsum f (pw f i 3) (fprd f m i)) n by omega, Nat.beq_refl]; rfl] at ihj
              refine And.intro (rng_of (by omega) (by omega)) ?_
              refine And.intro (rng_of (by omega) (by omega)) ?_
              exact ihj
        refine hK [69] _ _ _ _ _ _ ?_
        refine And.intro (fun q => absurd q (by omega)) (fun _ => ?_)
        refine ⟨w, sI s 1 0, f, i, 3, rfl, rfl, hT, hi, by omega, ?_⟩
        refine ⟨w, sI s 1 0, m, i, rfl, rfl, ⟨by omega, by omega, by omega, by omega⟩, ?_⟩
        rw [hT.2.2.2.2.2 m i hm hi]
        refine ⟨w, sI s 1 0, (pw f i 3 : Nat), (fprd f m i : Nat), rfl, rfl, ⟨by omega, by omega, by omega, by omega⟩, ?_⟩
        rw [hT.2.2.2.2.1 _ _ hp hpr]
        refine ⟨w, sI s 1 0, (fsum f (pw f i 3) (fprd f m i) : Nat), n, rfl, rfl, ⟨by omega, by omega, by omega, by omega⟩, ?_⟩
        rw [hT.2.2.2.2.1 _ _ hs1 hn]
        exact loopY 0 (by omega)
    exact loopX 0 (by omega) none none
  · exact ⟨w, sI s 1 0, 1, rfl, rfl, RP_fail h2 hr (hno (fun z => bi_c0 q2 z.2))⟩
theorem m_X10_curve (l : Launch) : mm_Met l yX10_curve cX10_curve 7 (some .int) 2 0 0 T_X10_curve := mm_met (E := e_X10_curve) (cd := kX10_curve) s_X10_curve (by decide) kX10_curve_ok (by decide +kernel) (by decide +kernel) (Or.inr (Or.inl ⟨rfl, rfl⟩)) rfl (mm_eok_X10 _) (mm_calls_cons (mm_cbv wi_X10_isElement (tb7 (i := 143) rfl rfl) (m_X10_isElement l) (by decide) (by decide) rfl) (mm_calls_cons (mm_cbv wi_X10_fail (tb6 (i := 180) rfl rfl) (m_X10_fail l) (by decide) (by decide) rfl) (mm_calls_cons (mm_cbv wi_X10_raise (tb5 (i := 221) rfl rfl) (m_X10_raise l) (by decide) (by decide) rfl) (mm_calls_cons (mm_cbv wi_X10_productOf (tb5 (i := 213) rfl rfl) (m_X10_productOf l) (by decide) (by decide) rfl) (mm_calls_cons (mm_cbv wi_X10_sumOf (tb5 (i := 205) rfl rfl) (m_X10_sumOf l) (by decide) (by decide) rfl) (mm_calls_nil))))))
def T_X10_let : Tr := fun av h N _ => ∃ (w : FW) (s : RS) (a : AS) (x v : Int), av = [mR 1000, mI x, mI v] ∧ h = hR w s ∧ RR a s ∧ mm_rng x ∧ mm_rng v ∧ RP w (xLet a x v).1 (xLet a x v).2 N
abbrev e_X10_let : NE := (ftX10, [(387, (2, 0, 0, false, (0, 10), T_X10_isElement)), (162, (3, 0, 0, false, (1, 0), T_X10_isIn))], ltX10, [], [], false, 1, (0, 0), [], [], [], false)
theorem s_X10_let : mm_Spec e_X10_let kX10_let 4 T_X10_let := by
  rintro N X K av h hK ⟨w, s, a, x, v, rfl, rfl, hr, hx, hv, h2⟩
  have hT := hr.2.1.1
  have hq := hT.2.2.2.1
  have hb := fbase hr.1.1
  refine ⟨rfl, hK [] _ _ _ _ _ _ ?_⟩
  refine ⟨w, s, x, fQ (aF a), rfl, rfl, hx, hq, by omega, ?_⟩
  refine And.intro (fun q1 => ?_) (fun q1 => ?_)
  · have q1 := bi_c1 q1
    refine ⟨_, _, _, rfl, ?_⟩
    rw [l_of hv, lc99, lcm99]
    refine And.intro (fun q2 => ?_) (fun q2 => ?_)
    · have q2 := bi_c1 q2
      obtain ⟨m, rfl⟩ := Int.eq_ofNat_of_zero_le q1.1
      have e : xLet a m v = (aSetW a (fun i => if i = m then v else aW a i), 0, aW a m) := by unfold xLet; rw [if_pos q1, if_pos q2]; rfl
      rw [e] at h2
      refine And.intro (fun _ => ?_) (fun q => absurd q (by omega))
      refine And.intro (by omega) ?_
      refine And.intro (by omega) ?_
      have hm := hr.2.2.2.2.2.1 m (by omega)
      refine RP_at (s := sA (sI s 1 0) 26 (mm_upd (s.2.1 26) (m : Int) v)) h2 ?_ rfl rfl hm
      obtain ⟨⟨a0, a1, a2, a3⟩, h1, h2, h3, h4, h5, h6⟩ := hr
      refine ⟨⟨a0, a1, fun y hy => ?_, a3⟩, h1, h2, h3, h4, fun y hy => ?_, h6⟩
      · show -99 ≤ (if y = m then v else aW a y) ∧ (if y = m then v else aW a y) ≤ 99
        by_cases q : y = m
        · rw [if_pos q]; exact q2
        · rw [if_neg q]; exact a2 y hy
      · show mm_upd (s.2.1 26) (m : Int) v (y : Int) = if y = m then v else aW a y
        unfold mm_upd
        by_cases q : y = m
        · rw [if_pos (by omega), if_pos q]
        · rw [if_neg (by omega), if_neg q]; exact h5 y hy
    · have q2 := bi_c0 q2
      have e : xLet a x v = (a, 2, 0) := by unfold xLet; rw [if_pos q1, if_neg q2]
      rw [e] at h2
      refine And.intro (fun q => absurd q (by omega)) (fun _ => ?_)
      exact RP_at (s := sI s 1 2) h2 hr rfl rfl rfl
  · have q1 := bi_c0 q1
    have e : xLet a x v = (a, 1, 0) := by unfold xLet; rw [if_neg q1]
    rw [e] at h2
    refine And.intro (fun q => absurd q (by omega)) (fun _ => ?_)
    exact RP_at (s := sI s 1 1) h2 hr rfl rfl rfl
theorem m_X10_let (l : Launch) : mm_Met l yX10_let cX10_let 4 (some .int) 2 0 0 T_X10_let := mm_met (E := e_X10_let) (cd := kX10_let) s_X10_let (by decide) kX10_let_ok (by decide +kernel) (by decide +kernel) (Or.inr (Or.inl ⟨rfl, rfl⟩)) rfl (mm_eok_X10 _) (mm_calls_cons (mm_cbv wi_X10_isElement (tb7 (i := 143) rfl rfl) (m_X10_isElement l) (by decide) (by decide) rfl) (mm_calls_cons (mm_cbs wi_X10_isIn (tb6 (i := 177) rfl rfl) (m_X10_isIn l) (by decide) (by decide) rfl) (mm_calls_nil)))
theorem sumI_bd {g : Nat → Int} {M : Int} (h : ∀ x, -M ≤ g x ∧ g x ≤ M) : ∀ n : Nat, -(M * n) ≤ sumI g n ∧ sumI g n ≤ M * n
  | 0 => by simp [sumI]
  | n + 1 => by
    have ih := sumI_bd h n
    have h2 := h n
    have e : M * ((n + 1 : Nat) : Int) = M * n + M := by push_cast; rw [Int.mul_add]; omega
    rw [e]
    show -(M * (n : Int) + M) ≤ sumI g n + g n ∧ sumI g n + g n ≤ _
    omega
theorem w_prod {x y : Int} (hx : -99 ≤ x ∧ x ≤ 99) (hy : -99 ≤ y ∧ y ≤ 99) : -9801 ≤ x * y ∧ x * y ≤ 9801 := by
  have h := Int.natAbs_mul x y
  have h2 : x.natAbs * y.natAbs ≤ 99 * 99 := Nat.mul_le_mul (by omega) (by omega)
  omega
theorem alk_bd {f : Nat} {W : Nat → Int} (hf : f < 15) (hW : ∀ x, x < 27 → -99 ≤ W x ∧ W x ≤ 99) {y : Nat} (hy : y < fQ f) : ∀ n, n ≤ fQ f → -300000 ≤ sumI (fun x => W x * W (fsum f x y)) n ∧ sumI (fun x => W x * W (fsum f x y)) n ≤ 300000 := by
  have hb := fbase hf
  have main : ∀ n, n ≤ fQ f → -(9801 * (n : Int)) ≤ sumI (fun x => W x * W (fsum f x y)) n ∧ sumI (fun x => W x * W (fsum f x y)) n ≤ 9801 * n := by
    intro n
    induction n with
    | zero => intro _; simp [sumI]
    | succ n ih =>
      intro hn
      have h1 := ih (by omega)
      have h2 := w_prod (hW n (by omega)) (hW (fsum f n y) (by have := fsum_lt hf (show n < fQ f by omega) hy; omega))
      show _ ≤ sumI (fun x => W x * W (fsum f x y)) n + W n * W (fsum f n y) ∧ sumI (fun x => W x * W (fsum f x y)) n + W n * W (fsum f n y) ≤ _
      omega
  intro n hn
  have := main n hn
  omega
def T_X10_alike : Tr := fun av h N _ => ∃ (w : FW) (s : RS) (a : AS) (y : Int), av = [mR 1000, mI y] ∧ h = hR w s ∧ RR a s ∧ mm_rng y ∧ RP w a (xAlike a y) N
abbrev e_X10_alike : NE := (ftX10, [(387, (2, 0, 0, false, (0, 10), T_X10_isElement)), (373, (2, 0, 0, false, (0, 10), T_X10_fail)), (139, (3, 0, 0, false, (0, 10), T_X10_sumOf))], ltX10, [], [], false, 1, (0, 0), [], [], [], false)
theorem s_X10_alike : mm_Spec e_X10_alike kX10_alike 4 T_X10_alike := by
  rintro N X K av h hK ⟨w, s, a, y, rfl, rfl, hr, hy, h2⟩
  have hT : RT (aF a) (sI s 1 0) := hr.2.1.1
  have hq : (sI s 1 0).1 4 = (fQ (aF a) : Nat) := hT.2.2.2.1
  have hW : ∀ x : Nat, x < fQ (aF a) → (sI s 1 0).2.1 26 (x : Int) = aW a x := hr.2.2.2.2.2.1
  have hb := fbase hr.1.1
  refine ⟨rfl, hK [23] _ _ _ _ _ _ ?_⟩
  refine ⟨w, sI s 1 0, y, fQ (aF a), rfl, rfl, hy, hq, by omega, ?_⟩
  refine And.intro (fun q1 => ?_) (fun q1 => ?_)
  · have q1 := bi_c1 q1
    obtain ⟨n, rfl⟩ := Int.eq_ofNat_of_zero_le q1.1
    have hn : n < fQ (aF a) := by omega
    have e : xAlike a n = (0, alkN (aF a) (aW a) n) := by unfold xAlike; rw [if_pos q1]; rfl
    have loop : ∀ x : Nat, x ≤ fQ (aF a) → K 23 [some (mR 1000), some (mI n), some (mI (sumI (fun x => aW a x * aW a (fsum (aF a) x n)) x)), some (mI x)] [] (hR w (sI s 1 0)) 0 0 := by
      refine mm_for (fQ (aF a)) ?_ (fun x hx ih => ?_)
      · refine hK [23] _ _ _ _ _ _ ?_
        refine And.intro (fun _ => ?_) (fun q => absurd q (by omega))
        exact RP_ok h2 hr e rfl
      · have hs := fsum_lt hr.1.1 hx hn
        have hbd := alk_bd hr.1.1 hr.1.2.2.1 hn x (by omega)
        have hpr := w_prod (hr.1.2.2.1 x (by omega)) (hr.1.2.2.1 (fsum (aF a) x n) (by omega))
        refine hK [23] _ _ _ _ _ _ ?_
        refine And.intro (fun q => absurd q (by omega)) (fun _ => ?_)
        refine And.intro (by omega) ?_
        refine ⟨w, sI s 1 0, x, n, rfl, rfl, ⟨by omega, by omega, by omega, by omega⟩, ?_⟩
        rw [hT.2.2.2.2.1 x n hx hn]
        refine And.intro (by omega) ?_
        conv => whnf
        rw [show (sI s 1 0).2.1 26 (x : Int) = _ from hW x hx, show (sI s 1 0).2.1 26 ((fsum (aF a) x n : Nat) : Int) = _ from hW _ hs]
        refine And.intro (rng_of (by omega) (by omega)) ?_
        refine And.intro (rng_of (by omega) (by omega)) ?_
        refine And.intro (rng_of (by omega) (by omega)) ?_
        exact ih
    exact loop 0 (by omega)
  · exact ⟨w, sI s 1 0, 1, rfl, rfl, RP_fail h2 hr (by unfold xAlike; rw [if_neg (bi_c0 q1)])⟩
theorem m_X10_alike (l : Launch) : mm_Met l yX10_alike cX10_alike 4 (some .int) 2 0 0 T_X10_alike := mm_met (E := e_X10_alike) (cd := kX10_alike) s_X10_alike (by decide) kX10_alike_ok (by decide +kernel) (by decide +kernel) (Or.inr (Or.inl ⟨rfl, rfl⟩)) rfl (mm_eok_X10 _) (mm_calls_cons (mm_cbv wi_X10_isElement (tb7 (i := 143) rfl rfl) (m_X10_isElement l) (by decide) (by decide) rfl) (mm_calls_cons (mm_cbv wi_X10_fail (tb6 (i := 180) rfl rfl) (m_X10_fail l) (by decide) (by decide) rfl) (mm_calls_cons (mm_cbv wi_X10_sumOf (tb5 (i := 205) rfl rfl) (m_X10_sumOf l) (by decide) (by decide) rfl) (mm_calls_nil))))
