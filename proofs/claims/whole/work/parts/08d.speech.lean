/-! what the component says -/
def TXc (c : CS) (l : List Int) : Prop := c.1 23 = (l.length : Nat) ∧ ∀ i : Nat, i < l.length → c.2.1 34 (i : Int) = l.getD i 0
theorem i2b_c : ∀ s : Fin 128, mm_i2b (s.val : Int) = (s.val : Int) := by decide +kernel
theorem i2b_nat {s : Int} (h : 0 ≤ s ∧ s ≤ 127) : mm_i2b s = s := by
  obtain ⟨n, rfl⟩ := Int.eq_ofNat_of_zero_le h.1
  exact i2b_c ⟨n, by omega⟩
def T_X5_put : Tr := fun av h N _ => ∃ (w : CW) (c : CS) (l : List Int) (s : Int), av = [mR 33, mI s] ∧ h = hC w c ∧ TXc c l ∧ l.length < 2640 ∧ (0 ≤ s ∧ s ≤ 127) ∧ ∀ c' : CS, FC [23] [34] [] c c' → TXc c' (l ++ [s]) → N none (hC w c')
abbrev e_X5_put : NE := (ftX5, [], ltX5, [], [], false, 0, (0, 0), [], [], [], true)
theorem s_X5_put : mm_Spec e_X5_put kX5_put 2 T_X5_put := by
  rintro N X K av h hK ⟨w, c, l, s, rfl, rfl, hT, hl, hs, h2⟩
  refine ⟨rfl, hK [] _ _ _ _ _ _ ?_⟩
  conv => whnf
  rw [hT.1]
  refine And.intro (fun q => absurd q (by omega)) (fun _ => ?_)
  conv => whnf
  rw [hT.1, i2b_nat hs]
  refine And.intro ⟨⟨by omega, by omega⟩, by omega, by omega⟩ ?_
  conv => whnf
  rw [hT.1]
  refine And.intro (rng_of (by omega) (by omega)) ?_
  refine h2 (kI (kA c 34 (mm_upd (c.2.1 34) (l.length : Int) s)) 23 ((l.length : Int) + 1)) (FC_I (FC_A (FC_rf c) rfl) rfl) ⟨?_, fun i hi => ?_⟩
  · show (l.length : Int) + 1 = _
    simp only [List.length_append, List.length_cons, List.length_nil]
    omega
  · simp only [List.length_append, List.length_cons, List.length_nil] at hi
    show mm_upd (c.2.1 34) (l.length : Int) s (i : Int) = _
    unfold mm_upd
    by_cases e : i = l.length
    · rw [if_pos (by omega), e, getD_app_r (Nat.le_refl _), Nat.sub_self]
      rfl
    · rw [if_neg (by omega), getD_app_l (by omega)]
      exact hT.2 i (by omega)
theorem m_X5_put (l : Launch) : mm_Met l yX5_put cX5_put 2 none 0 0 0 T_X5_put := mm_met (E := e_X5_put) (cd := kX5_put) s_X5_put (by decide) kX5_put_ok (by decide +kernel) (by decide +kernel) (Or.inl ⟨rfl, rfl⟩) rfl (mm_eok_X5 _) (mm_calls_nil)
def pnL (v : Nat) : Nat → List Int
  | 0 => []
  | n + 1 => (if 10 ^ n ≤ v then [((48 + v / 10 ^ n % 10 : Nat) : Int)] else []) ++ pnL v n
theorem pnL_0 : ∀ n, pnL 0 n = []
  | 0 => rfl
  | n + 1 => by
    unfold pnL
    rw [if_neg (by have : 0 < 10 ^ n := Nat.pow_pos (by omega); omega), pnL_0 n]
    rfl
theorem pnL_s {v : Nat} (hv : 1 ≤ v) : ∀ n, pnL v (n + 1) = pnL (v / 10) n ++ [((48 + v % 10 : Nat) : Int)]
  | 0 => by
    unfold pnL
    rw [Nat.pow_zero, if_pos hv, Nat.div_one]
    rfl
  | n + 1 => by
    have ih := pnL_s hv n
    have e1 : 10 ^ (n + 1) = 10 ^ n * 10 := Nat.pow_succ _ _
    have e2 : v / 10 ^ (n + 1) = v / 10 / 10 ^ n := by rw [e1, Nat.mul_comm, Nat.div_div_eq_div_mul]
    have e3 : 10 ^ (n + 1) ≤ v ↔ 10 ^ n ≤ v / 10 := by rw [e1, Nat.le_div_iff_mul_le (by omega)]
    show (if 10 ^ (n + 1) ≤ v then [((48 + v / 10 ^ (n + 1) % 10 : Nat) : Int)] else []) ++ pnL v (n + 1) = ((if 10 ^ n ≤ v / 10 then [((48 + v / 10 / 10 ^ n % 10 : Nat) : Int)] else []) ++ pnL (v / 10) n) ++ _
    rw [ih, e2, List.append_assoc]
    by_cases q : 10 ^ n ≤ v / 10
    · rw [if_pos q, if_pos (e3.mpr q)]
    · rw [if_neg q, if_neg (fun z => q (e3.mp z))]
theorem pnL_dg : ∀ (k v : Nat), 1 ≤ v → v < 10 ^ (k + 1) → pnL v (k + 1) = dg k v
  | 0, v, h1, h2 => by
    rw [pnL_s h1]
    rfl
  | k + 1, v, h1, h2 => by
    rw [pnL_s h1]
    unfold dg
    by_cases q : v ≤ 9
    · rw [Nat.ble_eq_true_of_le q, Nat.div_eq_of_lt (by omega), pnL_0]
      rfl
    · have hb : Nat.ble v 9 = false := by
        cases hz : Nat.ble v 9 with
        | true => exact absurd (Nat.le_of_ble_eq_true hz) q
        | false => rfl
      rw [hb, pnL_dg k (v / 10) (by omega) (by rw [Nat.pow_succ] at h2; omega)]
theorem pnL_len (v : Nat) : ∀ n, (pnL v n).length ≤ n
  | 0 => Nat.le_refl _
  | n + 1 => by
    have := pnL_len v n
    unfold pnL
    rw [List.length_append]
    split <;> simp only [List.length_cons, List.length_nil] <;> omega
def u10 : Nat → Int
  | 0 => 0
  | k + 1 => ((10 ^ k : Nat) : Int)
def T_X5_putNumber : Tr := fun av h N _ => ∃ (w : CW) (c : CS) (l : List Int) (v : Nat), av = [mR 33, mI v] ∧ h = hC w c ∧ 1 ≤ v ∧ v < 10000000 ∧ TXc c l ∧ (l ++ dg 6 v).length ≤ 2640 ∧ ∀ c' : CS, FC [23] [34] [] c c' → TXc c' (l ++ dg 6 v) → N none (hC w c')
abbrev e_X5_putNumber : NE := (ftX5, [(25, (2, 0, 0, false, (0, 5), T_X5_put))], ltX5, [], [], false, 0, (0, 0), [], [], [], true)
theorem s_X5_putNumber : mm_Spec e_X5_putNumber kX5_putNumber 3 T_X5_putNumber := by
  rintro N X K av h hK ⟨w, c, l, v, rfl, rfl, hv1, hv, hT, hl, h2⟩
  have p7 : (10 : Nat) ^ (6 + 1) = 10000000 := by decide
  rw [← pnL_dg 6 v hv1 (by omega)] at h2 hl
  have loop : ∀ (n : Nat) (c1 : CS) (l1 : List Int) (u : Int), n ≤ 7 → FC [23] [34] [] c c1 → TXc c1 l1 → l1 ++ pnL v n = l ++ pnL v 7 → u = u10 n → K 3 [some (mR 33), some (mI v), some (mI u)] [] (hC w c1) 0 0 := by
    intro n
    induction n with
    | zero =>
      intro c1 l1 u hn hF hT1 he hu
      have hu : u = 0 := hu
      subst hu
      have he : l1 = l ++ pnL v 7 := by rw [← he]; exact (List.append_nil l1).symm
      refine hK [] _ _ _ _ _ _ ?_
      refine And.intro (fun _ => ?_) (fun q => absurd q (by omega))
      exact h2 c1 hF (by rw [← he]; exact hT1)
    | succ n ih =>
      intro c1 l1 u hn hF hT1 he hu
      have hu : u = ((10 ^ n : Nat) : Int) := hu
      subst hu
      have hpos : 0 < 10 ^ n := Nat.pow_pos (by omega)
      have hle : 10 ^ n ≤ 10 ^ 6 := Nat.pow_le_pow_right (by omega) (by omega)
      have p6 : (10 : Nat) ^ 6 = 1000000 := by decide
      have st : pnL v (n + 1) = (if 10 ^ n ≤ v then [((48 + v / 10 ^ n % 10 : Nat) : Int)] else []) ++ pnL v n := rfl
      have hdl := Nat.div_le_self v (10 ^ n)
      have unx : ((10 ^ n / 10 : Nat) : Int) = u10 n := by
        cases n with
        | zero => rfl
        | succ k =>
          show ((10 ^ (k + 1) / 10 : Nat) : Int) = ((10 ^ k : Nat) : Int)
          rw [Nat.pow_succ, Nat.mul_div_cancel _ (by omega)]
      have nx : ∀ (c2 : CS) (l2 : List Int), FC [23] [34] [] c c2 → TXc c2 l2 → l2 ++ pnL v n = l ++ pnL v 7 → K 25 [some (mR 33), some (mI v), some (mI (10 ^ n : Nat))] [] (hC w c2) 0 0 := by
        intro c2 l2 hF2 hT2 he2
        refine hK [3] _ _ _ _ _ _ ?_
        refine And.intro (dv_ok (a := 10 ^ n) (b := 10) (by omega) (by omega)) ?_
        conv => whnf
        rw [show ((10 ^ n : Nat) : Int).tdiv 10 = ((10 ^ n / 10 : Nat) : Int) from tdn _ 10]
        exact ih c2 l2 _ (by omega) hF2 hT2 he2 unx
      refine hK [3, 25] _ _ _ _ _ _ ?_
      refine And.intro (fun q => absurd q (by omega)) (fun _ => ?_)
      refine And.intro (fun q => ?_) (fun q => ?_)
      · rw [if_neg (by omega)] at st
        exact nx c1 l1 hF hT1 (by rw [← he, st]; rfl)
      · rw [if_pos (by omega)] at st
        have hlen : l1.length < 2640 := by
          rw [← he, st, List.length_append, List.length_append] at hl
          simp only [List.length_cons, List.length_nil] at hl
          omega
        refine And.intro (dv_ok hpos (by omega)) ?_
        rw [tdn]
        refine And.intro (dv_ok (a := v / 10 ^ n) (b := 10) (by omega) (by omega)) ?_
        conv => whnf
        rw [show ((v / 10 ^ n : Nat) : Int).tmod 10 = ((v / 10 ^ n % 10 : Nat) : Int) from tmn _ 10]
        refine And.intro (rng_of (by omega) (by omega)) ?_
        refine ⟨w, c1, l1, 48 + ((v / 10 ^ n % 10 : Nat) : Int), rfl, rfl, hT1, hlen, by omega, fun c2 hF2 hT2 => ?_⟩
        refine nx c2 _ (FC_tr hF hF2 rfl rfl rfl) hT2 ?_
        rw [← he, st, List.append_assoc]
        rfl
  refine ⟨rfl, hK [3] _ _ _ _ _ _ ?_⟩
  exact loop 7 c l _ (by omega) (FC_rf c) hT rfl rfl
theorem m_X5_putNumber (l : Launch) : mm_Met l yX5_putNumber cX5_putNumber 3 none 1 0 0 T_X5_putNumber := mm_met (E := e_X5_putNumber) (cd := kX5_putNumber) s_X5_putNumber (by decide) kX5_putNumber_ok (by decide +kernel) (by decide +kernel) (Or.inl ⟨rfl, rfl⟩) rfl (mm_eok_X5 _) (mm_calls_cons (mm_cbv wi_X5_put (tb5 (i := 163) rfl rfl) (m_X5_put l) (by decide) (by decide) rfl) (mm_calls_nil))
def T_X5_putTerm : Tr := fun av h N _ => ∃ (w : CW) (c : CS) (l : List Int) (k : Int) (i : Nat), av = [mR 33, mI k, mI i] ∧ h = hC w c ∧ k ≠ 0 ∧ k.natAbs ≤ 1000000 ∧ i < 1000 ∧ TXc c l ∧ l.length + 20 ≤ 2660 ∧ l.length + 12 ≤ 2640 ∧ ∀ c' : CS, FC [23] [34] [] c c' → TXc c' (wrP l k i) → N none (hC w c')
abbrev e_X5_putTerm : NE := (ftX5, [(25, (2, 0, 0, false, (0, 5), T_X5_put)), (29, (1, 0, 0, false, (1, 0), T_J9_abs_0f7a4)), (35, (2, 0, 0, false, (0, 5), T_X5_putNumber))], ltX5, [], [], false, 0, (0, 0), [], [], [], true)
set_option maxHeartbeats 4000000 in
theorem s_X5_putTerm : mm_Spec e_X5_putTerm kX5_putTerm 4 T_X5_putTerm := by
  rintro N X K av h hK ⟨w, c, l, k, i, rfl, rfl, hk0, hk, hi, hT, -, hl, h2⟩
  have p7 : (10 : Nat) ^ (6 + 1) = 10000000 := by decide
  have p3 : (10 : Nat) ^ (2 + 1) = 1000 := by decide
  have hdi := dg_len 6 i 2 (by omega)
  have hdk := dg_len 6 k.natAbs 6 (by omega)
  have hsg : (sgn l k).length ≤ 1 := by
    unfold sgn
    split
    · simp
    · split <;> simp
  have hnm : (num k i).length ≤ 7 := by
    unfold num
    have := dg_len 6 k.natAbs 6 (by omega)
    split
    · exact this
    · simp
  have hzt : (zet i).length ≤ 1 := by unfold zet; split <;> simp
  have hex : (exq i).length ≤ 3 := by
    unfold exq
    have := dg_len 6 i 2 (by have : (10 : Nat) ^ (2 + 1) = 1000 := by decide
                             omega)
    split
    · exact this
    · simp
  have s4 : ∀ (c1 : CS) (o : Option MV), FC [23] [34] [] c c1 → TXc c1 (((l ++ sgn l k) ++ num k i) ++ zet i) → K 55 [some (mR 33), some (mI k), some (mI i), o] [] (hC w c1) 0 0 := by
    intro c1 o hF hT1
    refine hK [] _ _ _ _ _ _ ?_
    refine And.intro (fun q => ?_) (fun q => ?_)
    · refine h2 c1 hF ?_
      unfold wrP exq
      rw [if_neg (by omega), List.append_nil]
      exact hT1
    · refine ⟨w, c1, _, i, rfl, rfl, by omega, by omega, hT1, by simp only [List.length_append]; omega, fun c' hF' hT' => h2 c' (FC_tr hF hF' rfl rfl rfl) ?_⟩
      unfold wrP exq
      rw [if_pos (by omega)]
      exact hT'
  have s3 : ∀ (c1 : CS) (o : Option MV), FC [23] [34] [] c c1 → TXc c1 ((l ++ sgn l k) ++ num k i) → K 45 [some (mR 33), some (mI k), some (mI i), o] [] (hC w c1) 0 0 := by
    intro c1 o hF hT1
    refine hK [55] _ _ _ _ _ _ ?_
    refine And.intro (fun q => ?_) (fun q => ?_)
    · refine s4 c1 o hF ?_
      unfold zet
      rw [if_neg (by omega), List.append_nil]
      exact hT1
    · refine ⟨w, c1, _, 122, rfl, rfl, hT1, by simp only [List.length_append]; omega, by omega, fun c' hF' hT' => s4 c' o (FC_tr hF hF' rfl rfl rfl) ?_⟩
      unfold zet
      rw [if_pos (by omega)]
      exact hT'
  have s2 : ∀ c1 : CS, FC [23] [34] [] c c1 → TXc c1 (l ++ sgn l k) → K 26 [some (mR 33), some (mI k), some (mI i), none] [] (hC w c1) 0 0 := by
    intro c1 hF hT1
    have wn : (k.natAbs ≠ 1 ∨ i = 0) → K 40 [some (mR 33), some (mI k), some (mI i), some (mI (k.natAbs : Nat))] [] (hC w c1) 0 0 := fun hh => by
      refine hK [45] _ _ _ _ _ _ ?_
      refine ⟨w, c1, _, k.natAbs, rfl, rfl, by omega, by omega, hT1, by simp only [List.length_append]; omega, fun c' hF' hT' => s3 c' _ (FC_tr hF hF' rfl rfl rfl) ?_⟩
      unfold num
      rw [if_pos hh]
      exact hT'
    refine hK [40, 45] _ _ _ _ _ _ ?_
    refine ⟨_, rfl, by omega, ?_⟩
    have ea : (if 0 ≤ k then k else -k) = (k.natAbs : Int) := by split <;> omega
    rw [ea]
    refine And.intro (fun q => ?_) (fun q => ?_)
    · exact wn (Or.inl (by omega))
    · refine And.intro (fun q2 => ?_) (fun q2 => ?_)
      · refine s3 c1 _ hF ?_
        unfold num
        rw [if_neg (by omega), List.append_nil]
        exact hT1
      · exact wn (Or.inr (by omega))
  refine ⟨rfl, hK [26] _ _ _ _ _ _ ?_⟩
  refine And.intro (fun q => ?_) (fun q => ?_)
  · conv => whnf
    rw [hT.1]
    refine And.intro (fun q2 => ?_) (fun q2 => ?_)
    · refine s2 c (FC_rf c) ?_
      unfold sgn
      rw [if_neg (by omega), if_neg (by omega), List.append_nil]
      exact hT
    · refine ⟨w, c, l, 43, rfl, rfl, hT, by omega, by omega, fun c' hF' hT' => s2 c' hF' ?_⟩
      unfold sgn
      rw [if_neg (by omega), if_pos (by omega)]
      exact hT'
  · refine ⟨w, c, l, 45, rfl, rfl, hT, by omega, by omega, fun c' hF' hT' => s2 c' hF' ?_⟩
    unfold sgn
    rw [if_pos (by omega)]
    exact hT'
theorem m_X5_putTerm (l : Launch) : mm_Met l yX5_putTerm cX5_putTerm 4 none 2 0 0 T_X5_putTerm := mm_met3 (E := e_X5_putTerm) (cd := kX5_putTerm) s_X5_putTerm (by decide) kX5_putTerm_ok (by decide +kernel) (by decide +kernel) (Or.inl ⟨rfl, rfl⟩) rfl (mm_eok_X5 _) (mm_cq_cons (mm_CQ_of (mm_cbv wi_X5_put (tb5 (i := 163) rfl rfl) (m_X5_put l) (by decide) (by decide) rfl)) (mm_cq_cons (mm_CQ_abs wi_J9_abs_0f7a4 (tb5 (i := 167) rfl rfl) (by omega)) (mm_cq_cons (mm_CQ_of (mm_cbv wi_X5_putNumber (tb5 (i := 170) rfl rfl) (m_X5_putNumber l) (by decide) (by decide) rfl)) (mm_cq_nil))))
def T_X5_write : Tr := fun av h N _ => ∃ (w : CW) (c : CS) (r d : Nat) (V : Nat → Int), av = [mR 33, mQ r, mI d] ∧ h = hC w c ∧ r < 24 ∧ 1 ≤ d ∧ d ≤ 220 ∧ (∀ t : Nat, t < d → c.2.2.2.1 r (t : Int) = V t ∧ (V t).natAbs ≤ 1000000) ∧ ∀ c' : CS, FC [23] [34] [] c c' → TXc c' (sayX V d) → N (some (mI ((sayX V d).length : Nat))) (hC w c')
abbrev e_X5_write : NE := (ftX5, [(21, (3, 0, 0, false, (0, 5), T_X5_putTerm)), (25, (2, 0, 0, false, (0, 5), T_X5_put))], ltX5, [], [], false, 1, (0, 0), [], [], [], true)
set_option maxHeartbeats 4000000 in
theorem s_X5_write : mm_Spec e_X5_write kX5_write 4 T_X5_write := by
  rintro N X K av h hK ⟨w, c, r, d, V, rfl, rfl, hr, hd1, hd, hV, h2⟩
  have loop : ∀ (n : Nat) (c1 : CS) (l : List Int) (i : Int), n ≤ d → i = (n : Int) - 1 → FC [23] [34] [] c c1 → TXc c1 l → l.length ≤ 12 * (d - n) → sayL V n l = sayL V d [] → K 9 [some (mR 33), some (mQ r), some (mI d), some (mI i)] [] (hC w c1) 0 0 := by
    intro n
    induction n with
    | zero =>
      intro c1 l i hn hi hF hT hl he
      have he : l = sayL V d [] := he
      subst hi
      refine hK [] _ _ _ _ _ _ ?_
      refine And.intro (fun _ => ?_) (fun q => absurd q (by omega))
      conv => whnf
      rw [hT.1]
      refine And.intro (fun q => ?_) (fun q => ?_)
      · have e : sayX V d = l := by
          unfold sayX
          rw [← he]
          cases l with
          | nil => exact absurd rfl q
          | cons x t => rfl
        rw [e] at h2
        have h3 := h2 c1 hF hT
        rw [← show c1.1 23 = (l.length : Int) from hT.1] at h3
        exact h3
      · have e0 : l = [] := by
          cases l with
          | nil => rfl
          | cons x t => exact absurd q (by simp only [List.length_cons]; omega)
        have e : sayX V d = [48] := by
          unfold sayX
          rw [← he, e0]
        rw [e] at h2
        refine ⟨w, c1, l, 48, rfl, rfl, hT, by omega, by omega, fun c2 hF2 hT2 => ?_⟩
        rw [e0] at hT2
        have h3 := h2 c2 (FC_tr hF hF2 rfl rfl rfl) hT2
        rw [← show c2.1 23 = (([48] : List Int).length : Int) from hT2.1] at h3
        exact h3
    | succ n ih =>
      intro c1 l i hn hi hF hT hl he
      have hi : i = (n : Int) := by omega
      subst hi
      have he : sayL V n (if V n = 0 then l else wrP l (V n) n) = sayL V d [] := he
      obtain ⟨v1, v2⟩ := hV n (by omega)
      have hrow : c1.2.2.2.1 r (n : Int) = V n := by rw [hF.2.2.2]; exact v1
      refine hK [9] _ _ _ _ _ _ ?_
      refine And.intro (fun q => absurd q (by omega)) (fun _ => ?_)
      refine And.intro ⟨hr, by omega, by omega⟩ ?_
      conv => whnf
      rw [show (hC w c1).2.2.2.2 r (n : Int) = V n from hrow]
      refine And.intro (fun q => ?_) (fun q => ?_)
      · rw [if_pos q] at he
        refine And.intro (rng_of (by omega) (by omega)) ?_
        exact ih c1 l _ (by omega) rfl hF hT (by omega) he
      · rw [if_neg q] at he
        refine And.intro ⟨hr, by omega, by omega⟩ ?_
        refine ⟨w, c1, l, V n, n, by show [mR 33, mI (c1.2.2.2.1 r (n : Int)), mI (n : Int)] = _; rw [hrow], rfl, q, v2, by omega, hT, by omega, by omega, fun c2 hF2 hT2 => ?_⟩
        refine And.intro (rng_of (by omega) (by omega)) ?_
        have hw := wrP_len (l := l) v2 (show n < 1000 by omega)
        exact ih c2 _ _ (by omega) rfl (FC_tr hF hF2 rfl rfl rfl) hT2 (by omega) he
  refine ⟨rfl, hK [9] _ _ _ _ _ _ ?_⟩
  refine And.intro (rng_of (by omega) (by omega)) ?_
  exact loop d (kI c 23 0) [] _ (Nat.le_refl _) rfl (FC_I (FC_rf c) rfl) ⟨rfl, fun i hi => absurd hi (by simp)⟩ (by simp) rfl
theorem m_X5_write (l : Launch) : mm_Met l yX5_write cX5_write 4 (some .int) 3 0 0 T_X5_write := mm_met (E := e_X5_write) (cd := kX5_write) s_X5_write (by decide) kX5_write_ok (by decide +kernel) (by decide +kernel) (Or.inr (Or.inl ⟨rfl, rfl⟩)) rfl (mm_eok_X5 _) (mm_calls_cons (mm_cbv wi_X5_putTerm (tb5 (i := 159) rfl rfl) (m_X5_putTerm l) (by decide) (by decide) rfl) (mm_calls_cons (mm_cbv wi_X5_put (tb5 (i := 163) rfl rfl) (m_X5_put l) (by decide) (by decide) rfl) (mm_calls_nil)))
def T_X5_byteAt : Tr := fun av h N _ => ∃ (w : CW) (c : CS) (l : Nat) (i : Int), av = [mR 33, mI i] ∧ h = hC w c ∧ c.1 23 = (l : Nat) ∧ l ≤ 2640 ∧ N (some (mI (if 0 ≤ i ∧ i < (l : Int) then c.2.1 34 i else -1))) h
abbrev e_X5_byteAt : NE := (ftX5, [], ltX5, [], [], false, 1, (0, 0), [], [], [], true)
theorem s_X5_byteAt : mm_Spec e_X5_byteAt kX5_byteAt 2 T_X5_byteAt := by
  rintro N X K av h hK ⟨w, c, l, i, rfl, rfl, hl, hl2, h2⟩
  refine ⟨rfl, hK [] _ _ _ _ _ _ ?_⟩
  refine And.intro (fun q => ?_) (fun q => ?_)
  · rw [if_neg (by omega)] at h2
    exact h2
  conv => whnf
  rw [hl]
  refine And.intro (fun q2 => ?_) (fun q2 => ?_)
  · rw [if_neg (by omega)] at h2
    exact h2
  · rw [if_pos (by omega)] at h2
    refine And.intro (by omega) ?_
    exact h2
theorem m_X5_byteAt (l : Launch) : mm_Met l yX5_byteAt cX5_byteAt 2 (some .int) 0 0 0 T_X5_byteAt := mm_met (E := e_X5_byteAt) (cd := kX5_byteAt) s_X5_byteAt (by decide) kX5_byteAt_ok (by decide +kernel) (by decide +kernel) (Or.inr (Or.inl ⟨rfl, rfl⟩)) rfl (mm_eok_X5 _) (mm_calls_nil)
