/-! the component: the tape -/
theorem bv_255 : ∀ i : Fin 32, 8 ≤ i.val → (255#32).getLsbD i.val = false := by decide
theorem bv_sh (v : BitVec 32) {n : Nat} (hn : n ≤ 24) : (v >>> n) &&& 255#32 = (v.sshiftRight n) &&& 255#32 := by
  apply BitVec.eq_of_getLsbD_eq
  intro i hi
  rw [BitVec.getLsbD_and, BitVec.getLsbD_and, BitVec.getLsbD_ushiftRight, BitVec.getLsbD_sshiftRight]
  by_cases h8 : i < 8
  · have h1 : n + i < 32 := by omega
    have h3 : ¬ 32 ≤ i := by omega
    simp [h1, hi, h3]
  · rw [bv_255 ⟨i, hi⟩ (by show 8 ≤ i; omega), Bool.and_false, Bool.and_false]
theorem ushr_key (y : Int32) : ∀ k : Fin 4, ((y.toUInt32 >>> ((Int32.ofInt (8 * (k.val : Int))).toUInt32 &&& Int32.toUInt32 31)).toInt32 &&& 255) = ((y >>> (Int32.ofInt (8 * (k.val : Int)) &&& 31)) &&& 255) := by
  intro k
  apply Int32.toBitVec_inj.mp
  match k with
  | 0 => exact bv_sh y.toBitVec (n := 0) (by omega)
  | 1 => exact bv_sh y.toBitVec (n := 8) (by omega)
  | 2 => exact bv_sh y.toBitVec (n := 16) (by omega)
  | 3 => exact bv_sh y.toBitVec (n := 24) (by omega)
theorem ushr_255 (x : Int) {k : Nat} (hk : k < 4) : mm_and (mm_ushr x (8 * (k : Int))) 255 = mm_and (mm_shr x (8 * (k : Int))) 255 := by
  unfold mm_and mm_ushr mm_shr
  rw [Int32.ofInt_toInt, Int32.ofInt_toInt, show Int32.ofInt 255 = 255 from rfl]
  exact congrArg Int32.toInt (ushr_key (Int32.ofInt x) ⟨k, hk⟩)
def T_X9_append : Tr := fun av h N _ => ∃ (M : List ME) (c : CS) (n : Nat) (v : Int), av = [mR 0, mI v] ∧ h = hC (none, M) c ∧ c.1 24 = (n : Nat) ∧ n + 4 ≤ 200 ∧ ∀ c' : CS, FC [24] [17] [] c c' → c'.1 24 = ((n + 4 : Nat) : Int) → (∀ i : Nat, i < 200 → c'.2.1 17 (i : Int) = if n ≤ i ∧ i < n + 4 then mm_and (mm_shr v (24 - 8 * ((i - n : Nat) : Int))) 255 else c.2.1 17 (i : Int)) → N none (hC (none, M) c')
abbrev e_X9_append : NE := (ftX9, [], ltX9, [], [], false, 0, (0, 0), [], [], [], true)
theorem s_X9_append : mm_Spec e_X9_append kX9_append 3 T_X9_append := by
  rintro N X K av h hK ⟨M, c, n, v, rfl, rfl, hn, hn4, h2⟩
  have loop : ∀ (k j : Nat) (c1 : CS), j + k = 4 → FC [24] [17] [] c c1 → c1.1 24 = ((n + j : Nat) : Int) → (∀ i : Nat, i < 200 → c1.2.1 17 (i : Int) = if n ≤ i ∧ i < n + j then mm_and (mm_shr v (24 - 8 * ((i - n : Nat) : Int))) 255 else c.2.1 17 (i : Int)) → K 3 [some (mR 0), some (mI v), some (mI (24 - 8 * (j : Int)))] [] (hC (none, M) c1) 0 0 := by
    intro k
    induction k with
    | zero =>
      intro j c1 hj hF h24 ht
      refine hK [3] _ _ _ _ _ _ ?_
      refine And.intro (fun _ => ?_) (fun q => absurd q (by omega))
      rw [show j = 4 by omega] at h24 ht
      exact h2 c1 hF h24 ht
    | succ k ih =>
      intro j c1 hj hF h24 ht
      have e8 : 24 - 8 * (j : Int) = 8 * ((3 - j : Nat) : Int) := by omega
      have hu := ushr_255 v (k := 3 - j) (by omega)
      rw [← e8] at hu
      refine hK [3] _ _ _ _ _ _ ?_
      refine And.intro (fun q => absurd q (by omega)) (fun _ => ?_)
      conv => whnf
      rw [h24]
      refine And.intro (by omega) ?_
      have e9 : 24 - 8 * (j : Int) + -8 = 24 - 8 * ((j + 1 : Nat) : Int) := by omega
      refine And.intro (rng_of (by omega) (by omega)) ?_
      conv => whnf
      rw [e9, hu]
      refine And.intro (rng_of (by omega) (by omega)) ?_
      refine ih (j + 1) (kI (kA c1 17 (mm_upd (c1.2.1 17) ((n + j : Nat) : Int) (mm_and (mm_shr v (24 - 8 * (j : Int))) 255))) 24 (c1.1 24 + 1)) (by omega) (FC_I (FC_A hF rfl) rfl) (show c1.1 24 + 1 = _ by rw [h24]; omega) (fun i hi => ?_)
      show mm_upd (c1.2.1 17) ((n + j : Nat) : Int) (mm_and (mm_shr v (24 - 8 * (j : Int))) 255) (i : Int) = _
      unfold mm_upd
      by_cases e : i = n + j
      · rw [if_pos (by omega), if_pos ⟨by omega, by omega⟩, show i - n = j by omega]
      · rw [if_neg (by omega), ht i hi]
        by_cases e2 : n ≤ i ∧ i < n + j
        · rw [if_pos e2, if_pos ⟨by omega, by omega⟩]
        · rw [if_neg e2, if_neg (by omega)]
  refine ⟨rfl, hK [3] _ _ _ _ _ _ ?_⟩
  exact loop 4 0 c (by omega) (FC_rf c) hn (fun i hi => by rw [if_neg (by omega)])
theorem m_X9_append (l : Launch) : mm_Met l yX9_append cX9_append 3 none 0 0 0 T_X9_append := mm_met (E := e_X9_append) (cd := kX9_append) s_X9_append (by decide) kX9_append_ok (by decide +kernel) (by decide +kernel) (Or.inl ⟨rfl, rfl⟩) rfl (mm_eok_X9 _) (mm_calls_nil)
