/-! the component's field: which there are -/
def fSz (p k : Int) : Int := match fOf p k with
  | some f => (fQ f : Int)
  | none => -1
theorem fOf_c : (List.range 9).all (fun j => (List.range 5).all (fun k => Nat.beq k 0 || decide (fSz (mm_primes j) k = if (mm_primes j) ^ k ≤ 27 then (mm_primes j) ^ k else -1))) = true := by decide +kernel
theorem prm_c : fevery (fun f => (List.range 9).any (fun j => decide (mm_primes j = (fP f : Int)))) = true := by decide +kernel
theorem prm_2 : (List.range 9).all (fun j => decide (2 ≤ mm_primes j ∧ mm_primes j ≤ 23)) = true := by decide +kernel
theorem prm_rng {j : Nat} (h : j < 9) : 2 ≤ mm_primes j ∧ mm_primes j ≤ 23 := of_decide_eq_true (List.all_eq_true.mp prm_2 j (List.mem_range.mpr h))
theorem fSz_no {p k : Int} (h : (∀ j : Nat, j < 9 → mm_primes j ≠ p) ∨ k < 1) : fSz p k = -1 := by
  unfold fSz
  cases hz : fOf p k with
  | none => rfl
  | some f =>
    obtain ⟨f1, f2, f3⟩ := fOf_some hz
    have hb := fbase f1
    rcases h with h | h
    · obtain ⟨j, hj, hp⟩ := List.any_eq_true.mp (fevery_at prm_c f1)
      exact absurd (of_decide_eq_true hp) (by rw [← f2]; exact h j (List.mem_range.mp hj))
    · omega
theorem fSz_at {j k : Nat} (hj : j < 9) (hk : 1 ≤ k) : fSz (mm_primes j) k = if (mm_primes j) ^ k ≤ 27 then (mm_primes j) ^ k else -1 := by
  by_cases h5 : k < 5
  · have h := List.all_eq_true.mp (List.all_eq_true.mp fOf_c j (List.mem_range.mpr hj)) k (List.mem_range.mpr h5)
    rw [Bool.or_eq_true] at h
    rcases h with h | h
    · exact absurd (Nat.eq_of_beq_eq_true h) (by omega)
    · exact of_decide_eq_true h
  · have hp := prm_rng hj
    obtain ⟨m, hm⟩ := Int.eq_ofNat_of_zero_le (show 0 ≤ mm_primes j by omega)
    have h1 : 2 ^ 5 ≤ m ^ k := Nat.le_trans (Nat.pow_le_pow_left (by omega) 5) (Nat.pow_le_pow_right (by omega) (by omega))
    have h2 : (mm_primes j) ^ k = ((m ^ k : Nat) : Int) := by rw [hm]; exact (Int.natCast_pow m k).symm
    have h3 : (2 : Nat) ^ 5 = 32 := by decide
    rw [if_neg (by omega)]
    unfold fSz
    cases hz : fOf (mm_primes j) k with
    | none => rfl
    | some f =>
      obtain ⟨f1, f2, f3⟩ := fOf_some hz
      have hb := fbase f1
      omega
def T_X1_sizeOf : Tr := fun av h N _ => ∃ p k : Int, av = [mI p, mI k] ∧ N (some (mI (fSz p k))) h
abbrev e_X1_sizeOf : NE := (ftX1, [], ltX1, [], [], false, 1, (0, 0), [(2001, 9, mm_primes)], [(36, 2001)], [], true)
theorem or_01 {g : Int} (hg : g = 0 ∨ g = 1) : mm_or g 0 = g ∧ mm_or g 1 = 1 := by
  rcases hg with rfl | rfl <;> exact ⟨by decide, by decide⟩
set_option maxHeartbeats 4000000 in
theorem s_X1_sizeOf : mm_Spec e_X1_sizeOf kX1_sizeOf 7 T_X1_sizeOf := by
  rintro N X K av h hK ⟨p, k, rfl, h2⟩
  -- the size by steps
  have loop : ∀ (j : Nat), j < 9 → p = mm_primes j → 1 ≤ k → ∀ (n i : Nat) (o5 o6 : Option MV) (g : Int), i + n = 6 → (i : Int) ≤ k → (∀ m : Nat, m < i → (mm_primes j) ^ m ≤ 27) → K 62 [some (mI p), some (mI k), some (mI g), some (mI ((mm_primes j) ^ i)), some (mI i), o5, o6] [] h 0 0 := by
    intro j hj hp hk1 n
    have hpr := prm_rng hj
    obtain ⟨q, hq⟩ := Int.eq_ofNat_of_zero_le (show 0 ≤ mm_primes j by omega)
    obtain ⟨kn, hkn⟩ := Int.eq_ofNat_of_zero_le (show 0 ≤ k by omega)
    have hpc : ∀ i : Nat, (mm_primes j) ^ i = ((q ^ i : Nat) : Int) := fun i => by rw [hq]; exact (Int.natCast_pow q i).symm
    have e := fSz_at (k := kn) hj (by omega)
    rw [← hp, ← hkn] at e
    rw [e] at h2
    have h32 : (2 : Nat) ^ 5 = 32 := by decide
    induction n with
    | zero =>
      intro i o5 o6 g hi hik hle
      have := hle 5 (by omega)
      have h1 : 2 ^ 5 ≤ q ^ 5 := Nat.pow_le_pow_left (by omega) 5
      rw [hpc] at this
      omega
    | succ n ih =>
      intro i o5 o6 g hi hik hle
      -- behind the loop
      have fin : ∀ v : Int, v = (if p ^ kn ≤ 27 then p ^ kn else -1) ∨ (v > 27 ∧ ¬ p ^ kn ≤ 27) → (v ≤ 27 → v = p ^ kn) → K 84 [some (mI p), some (mI k), some (mI g), some (mI v), some (mI i), o5, o6] [] h 0 0 := by
        intro v hv hv2
        refine hK [] _ _ _ _ _ _ ?_
        refine And.intro (fun q => ?_) (fun q => ?_)
        · rw [if_neg (by omega)] at h2
          exact h2
        · have e2 := hv2 q
          rw [if_pos (by omega), ← e2] at h2
          exact h2
      refine hK [62, 84] _ _ _ _ _ _ ?_
      refine And.intro (fun q1 => ?_) (fun q1 => ?_)
      · have ek : i = kn := by omega
        subst ek
        refine fin _ ?_ (fun _ => by rw [hp])
        rw [hp]
        by_cases z : (mm_primes j) ^ i ≤ 27
        · rw [if_pos z]; exact Or.inl rfl
        · exact Or.inr ⟨by omega, z⟩
      · refine And.intro (fun q2 => ?_) (fun q2 => ?_)
        · refine fin _ (Or.inr ⟨by omega, fun z => ?_⟩) (fun z => by omega)
          have hmono : q ^ i ≤ q ^ kn := Nat.pow_le_pow_right (by omega) (by omega)
          rw [hp, hpc] at z
          rw [hpc] at q2
          omega
        · have hb : q ^ i * q ≤ 27 * 23 := Nat.mul_le_mul (by rw [hpc] at q2; omega) (by omega)
          have e3 : (mm_primes j) ^ i * p = (mm_primes j) ^ (i + 1) := by rw [hp]; exact (Int.pow_succ _ _).symm
          have e4 : (mm_primes j) ^ (i + 1) = ((q ^ (i + 1) : Nat) : Int) := hpc (i + 1)
          have e5 : q ^ (i + 1) = q ^ i * q := rfl
          refine And.intro (by rw [e3, e4, e5]; exact rng_nat (by omega)) ?_
          refine And.intro (rng_of (by omega) (by omega)) ?_
          rw [e3]
          refine ih (i + 1) o5 o6 g (by omega) (by omega) (fun m hm => ?_)
          by_cases z : m = i
          · rw [z]; exact q2
          · exact hle m (by omega)
  -- the primes
  have primes : ∀ i : Nat, i ≤ 9 → ∀ (g : Int) (o : Option MV), (g = 0 ∨ g = 1) → (g = 0 → ∀ j : Nat, j < i → mm_primes j ≠ p) → (g = 1 → ∃ j : Nat, j < 9 ∧ mm_primes j = p) → K 13 [some (mI p), some (mI k), some (mI g), some (mR 2001), some (mI 9), some (mI i), o] [] h 0 0 := by
    refine mm_for 9 (fun g o hg h0 h1 => ?_) (fun i hi ih g o hg h0 h1 => ?_)
    · refine hK [62] _ _ _ _ _ _ ?_
      refine And.intro (fun _ => ?_) (fun q => absurd q (by omega))
      refine And.intro (fun q => ?_) (fun q => ?_)
      · rw [fSz_no (Or.inl (h0 q))] at h2
        exact h2
      · refine And.intro (fun q2 => ?_) (fun q2 => ?_)
        · have hg1 : g = 1 := by
            rcases hg with z | z
            · exact absurd z q
            · exact z
          obtain ⟨j, hj, hp⟩ := h1 hg1
          have h3 := loop j hj hp.symm q2 6 0 (some (mI 9)) o g rfl (by omega) (fun m hm => absurd hm (by omega))
          rw [Int.pow_zero] at h3
          exact h3
        · rw [fSz_no (Or.inr (by omega))] at h2
          exact h2
    · refine hK [13] _ _ _ _ _ _ ?_
      refine And.intro (fun q => absurd q (by omega)) (fun _ => ?_)
      refine And.intro (by omega) ?_
      refine And.intro (fun q => ?_) (fun q => ?_)
      · conv => whnf
        rw [(or_01 hg).1]
        refine And.intro (rng_of (by omega) (by omega)) ?_
        refine ih g _ hg (fun z j hj => ?_) h1
        by_cases e : j = i
        · rw [e]; exact q
        · exact h0 z j (by omega)
      · conv => whnf
        rw [(or_01 hg).2]
        refine And.intro (rng_of (by omega) (by omega)) ?_
        exact ih 1 _ (Or.inr rfl) (fun z => absurd z (by omega)) (fun _ => ⟨i, hi, q⟩)
  refine ⟨rfl, hK [13] _ _ _ _ _ _ ?_⟩
  exact primes 0 (by omega) 0 _ (Or.inl rfl) (fun _ j hj => absurd hj (by omega)) (fun z => absurd z (by omega))
theorem mm_eok_sz : mm_Eok RX1 "sizeOf" 0 e_X1_sizeOf := by
  refine ⟨mm_Fok_of ftX1_ok, (fun _ h => nomatch h), (fun h => nomatch h), fun i n f h => ?_, fun i a h => ?_, Or.inl rfl, (fun _ h => nomatch h)⟩
  · have h : mm_look [(2001, 9, mm_primes)] i = some (n, f) := h
    unfold mm_look at h
    split at h
    · rename_i hk
      cases h
      exact ⟨(Nat.eq_of_beq_eq_true hk).symm, rfl, rfl⟩
    · cases h
  · have h : mm_look [(36, 2001)] i = some a := h
    unfold mm_look at h
    split at h
    · rename_i hk
      cases h
      rw [← Nat.eq_of_beq_eq_true hk]
      exact ⟨rfl, tb2 (i := 194) rfl rfl⟩
    · cases h
theorem m_X1_sizeOf (l : Launch) : mm_Met l yX1_sizeOf cX1_sizeOf 7 (some .int) 0 0 0 T_X1_sizeOf := mm_met (E := e_X1_sizeOf) (cd := kX1_sizeOf) s_X1_sizeOf (by decide) kX1_sizeOf_ok (by decide +kernel) (by decide +kernel) (Or.inr (Or.inl ⟨rfl, rfl⟩)) rfl mm_eok_sz mm_calls_nil
