/-! the reference: texts of values -/
def TX (s : RS) (l : List Int) : Prop := s.1 52 = (l.length : Nat) ∧ ∀ i : Nat, i < l.length → s.2.1 51 (i : Int) = l.getD i 0
def T_X10_write : Tr := fun av h N _ => ∃ (w : FW) (s : RS) (l : List Int) (c : Int), av = [mR 1000, mI c] ∧ h = hR w s ∧ TX s l ∧ l.length ≤ 8000 ∧ ∀ s' : RS, FR [52] [51] [] s s' → TX s' (l ++ [c]) → N none (hR w s')
abbrev e_X10_write : NE := (ftX10, [], ltX10, [], [], false, 0, (0, 0), [], [], [], false)
theorem s_X10_write : mm_Spec e_X10_write kX10_write 2 T_X10_write := by
  rintro N X K av h hK ⟨w, s, l, c, rfl, rfl, ⟨t1, t2⟩, hl, h2⟩
  refine ⟨rfl, hK [] _ _ _ _ _ _ ?_⟩
  conv => whnf
  rw [t1]
  refine And.intro (by omega) ?_
  conv => whnf
  rw [t1]
  refine And.intro (rng_of (by omega) (by omega)) ?_
  refine h2 (sI (sA s 51 (mm_upd (s.2.1 51) ((l.length : Nat) : Int) c)) 52 (((l.length : Nat) : Int) + 1)) (FR_I (FR_A (FR_rf s) rfl) rfl) ⟨?_, fun i hi => ?_⟩
  · show ((l.length : Nat) : Int) + 1 = _
    rw [List.length_append]
    rfl
  · show mm_upd (s.2.1 51) ((l.length : Nat) : Int) c (i : Int) = _
    rw [List.length_append] at hi
    simp at hi
    unfold mm_upd
    by_cases q : i = l.length
    · rw [if_pos (by omega), q, List.getD_eq_getElem?_getD, List.getElem?_append_right (by omega), Nat.sub_self]
      rfl
    · rw [if_neg (by omega), List.getD_eq_getElem?_getD, List.getElem?_append_left (by omega), ← List.getD_eq_getElem?_getD]
      exact t2 i (by omega)
theorem m_X10_write (l : Launch) : mm_Met l yX10_write cX10_write 2 none 0 0 0 T_X10_write := mm_met (E := e_X10_write) (cd := kX10_write) s_X10_write (by decide) kX10_write_ok (by decide +kernel) (by decide +kernel) (Or.inl ⟨rfl, rfl⟩) rfl (mm_eok_X10 _) (mm_calls_nil)
theorem lc9 : ((9 : Int64)).toInt = 9 := by decide
theorem lc10 : (10 : Int64) = Int64.ofInt ((10 : Nat) : Int) := by decide
theorem ldiv_nat {a b : Nat} (ha : a < 9223372036854775808) (h0 : 0 < b) (hb : b < 9223372036854775808) : Int64.ofInt (a : Int) / Int64.ofInt (b : Int) = Int64.ofInt ((a / b : Nat) : Int) := by
  rw [lN_of, lN_of, lN_of, pk_lDiv (by omega) h0 (by omega)]
def T_X10_writeNumber (k : Nat) : Tr := fun av h N _ => ∃ (w : FW) (s : RS) (l : List Int) (v : Nat), av = [mR 1000, mL (Int64.ofInt (v : Int))] ∧ h = hR w s ∧ v < 10 ^ (k + 1) ∧ v < 2147483648 ∧ TX s l ∧ l.length ≤ 7000 ∧ ∀ s' : RS, FR [52] [51] [] s s' → TX s' (l ++ dg k v) → N none (hR w s')
abbrev e_X10_writeNumber0  : NE := (ftX10, [(489, (2, 0, 0, false, (0, 10), T_X10_write))], ltX10, [], [], false, 0, (0, 0), [], [], [], false)
abbrev e_X10_writeNumberS (k : Nat) : NE := (ftX10, [(485, (2, 0, 0, false, (0, 10), (T_X10_writeNumber k))), (489, (2, 0, 0, false, (0, 10), T_X10_write))], ltX10, [], [], false, 0, (0, 0), [], [], [], false)
theorem s_X10_writeNumber0 : mm_Spec e_X10_writeNumber0 kX10_writeNumber 3 (T_X10_writeNumber 0) := by
  rintro N X K av h hK ⟨w, s, l, v, rfl, rfl, hv, hv2, hT, hl, h2⟩
  have hle := cmp_le (Int64.ofInt (v : Int)) 9
  rw [lti (by omega), lc9] at hle
  refine ⟨rfl, hK [] _ _ _ _ _ _ ?_⟩
  refine And.intro (fun q => ?_) (fun q => ?_)
  · conv => whnf
    rw [lc10]
    refine And.intro (l_ne0 (by omega) (by omega)) ?_
    rw [lrem_nat (by omega) (by omega) (by omega)]
    refine And.intro (by rw [lti (by omega)]; exact rng_nat (by omega)) ?_
    rw [lti (by omega)]
    refine And.intro (rng_of (by omega) (by omega)) ?_
    exact ⟨w, s, l, 48 + ((v % 10 : Nat) : Int), rfl, rfl, hT, by omega, fun s' hF hT' => h2 s' hF hT'⟩
  · have hq : ¬ (v : Int) ≤ 9 := fun z => absurd (hle.mpr z) (Int.not_le.mpr q)
    exact absurd hq (by omega)
theorem m_X10_writeNumber0  (l : Launch) : mm_Met l yX10_writeNumber cX10_writeNumber 3 none (1) 0 0 (T_X10_writeNumber 0) := mm_met (E := e_X10_writeNumber0 ) (cd := kX10_writeNumber) (s_X10_writeNumber0 ) (by decide) kX10_writeNumber_ok (by decide +kernel) (by rfl) (Or.inl ⟨rfl, rfl⟩) rfl (mm_eok_X10 _) (mm_calls_cons (mm_cbv wi_X10_write (tb8 (i := 92) rfl rfl) (m_X10_write l) (by omega) (by omega) rfl) (mm_calls_nil))
theorem s_X10_writeNumberS (k : Nat) : mm_Spec (e_X10_writeNumberS k) kX10_writeNumber 3 (T_X10_writeNumber (k + 1)) := by
  rintro N X K av h hK ⟨w, s, l, v, rfl, rfl, hv, hv2, hT, hl, h2⟩
  have hle := cmp_le (Int64.ofInt (v : Int)) 9
  rw [lti (by omega), lc9] at hle
  have fin : ∀ (s1 : RS) (l1 : List Int), FR [52] [51] [] s s1 → TX s1 l1 → l1.length ≤ 7100 → l ++ dg (k + 1) v = l1 ++ [((48 + v % 10 : Nat) : Int)] → K 17 [some (mR 1000), some (mL (Int64.ofInt (v : Int))), none] [] (hR w s1) 0 0 := by
    intro s1 l1 hF1 hT1 hl1 e
    refine hK [] _ _ _ _ _ _ ?_
    conv => whnf
    rw [lc10]
    refine And.intro (l_ne0 (by omega) (by omega)) ?_
    rw [lrem_nat (by omega) (by omega) (by omega)]
    refine And.intro (by rw [lti (by omega)]; exact rng_nat (by omega)) ?_
    rw [lti (by omega)]
    refine And.intro (rng_of (by omega) (by omega)) ?_
    exact ⟨w, s1, l1, 48 + ((v % 10 : Nat) : Int), rfl, rfl, hT1, by omega, fun s' hF hT' => h2 s' (FR_tr hF1 hF rfl rfl rfl) (by rw [e]; exact hT')⟩
  refine ⟨rfl, hK [17] _ _ _ _ _ _ ?_⟩
  refine And.intro (fun q => ?_) (fun q => ?_)
  · have hq := hle.mp q
    refine fin s l (FR_rf s) hT (by omega) ?_
    unfold dg
    rw [Nat.ble_eq_true_of_le (show v ≤ 9 by omega)]
  · have hq : ¬ (v : Int) ≤ 9 := fun z => absurd (hle.mpr z) (Int.not_le.mpr q)
    have hb : Nat.ble v 9 = false := by
      cases hz : Nat.ble v 9 with
      | true => exact absurd (Nat.le_of_ble_eq_true hz) (by omega)
      | false => rfl
    conv => whnf
    rw [lc10]
    refine And.intro (l_ne0 (by omega) (by omega)) ?_
    rw [ldiv_nat (by omega) (by omega) (by omega)]
    have hlen := dg_len k (v / 10) 9 (by have : (10 : Nat) ^ 10 = 10000000000 := by decide
                                         omega)
    refine ⟨w, s, l, v / 10, rfl, rfl, by rw [Nat.pow_succ] at hv; omega, by omega, hT, hl, fun s' hF hT' => ?_⟩
    refine fin s' (l ++ dg k (v / 10)) hF hT' (by rw [List.length_append]; omega) ?_
    conv => lhs; unfold dg
    rw [hb, List.append_assoc]
theorem m_X10_writeNumberS (k : Nat) (ih : ∀ l : Launch, mm_Met l yX10_writeNumber cX10_writeNumber 3 none (k + 1) 0 0 (T_X10_writeNumber k)) (l : Launch) : mm_Met l yX10_writeNumber cX10_writeNumber 3 none (k + 2) 0 0 (T_X10_writeNumber (k + 1)) := mm_met (E := e_X10_writeNumberS k) (cd := kX10_writeNumber) (s_X10_writeNumberS k) (by decide) kX10_writeNumber_ok (by decide +kernel) (by rfl) (Or.inl ⟨rfl, rfl⟩) rfl (mm_eok_X10 _) (mm_calls_cons (mm_cbv wi_X10_writeNumber (tb8 (i := 99) rfl rfl) (ih l) (by omega) (by omega) rfl) (mm_calls_cons (mm_cbv wi_X10_write (tb8 (i := 92) rfl rfl) (m_X10_write l) (by omega) (by omega) rfl) (mm_calls_nil)))
theorem m_X10_writeNumber : ∀ (k : Nat) (l : Launch), mm_Met l yX10_writeNumber cX10_writeNumber 3 none (k + 1) 0 0 (T_X10_writeNumber k)
  | 0, l => m_X10_writeNumber0 l
  | k + 1, l => m_X10_writeNumberS k (m_X10_writeNumber k) l
theorem absL {c : Int} (h : mm_rng c) : (if 0 < Int64.ofInt c then Int64.ofInt c else -Int64.ofInt c) = Int64.ofInt (c.natAbs : Int) := by
  have h0 : ((0 : Int64)).toInt = 0 := by decide
  by_cases q : 0 < c
  · rw [if_pos (by rw [Int64.lt_iff_toInt_lt, l_of h, h0]; exact q), show (c.natAbs : Int) = c by omega]
  · rw [if_neg (by rw [Int64.lt_iff_toInt_lt, l_of h, h0]; exact q), show (c.natAbs : Int) = -c by omega, Int64.ofInt_neg]
def T_X10_writePart : Tr := fun av h N _ => ∃ (w : FW) (s : RS) (l : List Int) (c : Int) (i : Nat), av = [mR 1000, mL (Int64.ofInt c), mI i] ∧ h = hR w s ∧ c.natAbs ≤ 1000000 ∧ i < 1000 ∧ TX s l ∧ l.length ≤ 6000 ∧ ∀ s' : RS, FR [52] [51] [] s s' → TX s' (wrP l c i) → N none (hR w s')
abbrev e_X10_writePart  : NE := (ftX10, [(489, (2, 0, 0, false, (0, 10), T_X10_write)), (492, (1, 0, 0, false, (1, 0), T_J9_abs_067f4)), (485, (2, 0, 0, false, (0, 10), (T_X10_writeNumber 6)))], ltX10, [], [], false, 0, (0, 0), [], [], [], false)
set_option maxHeartbeats 4000000 in
theorem s_X10_writePart : mm_Spec e_X10_writePart kX10_writePart 6 T_X10_writePart := by
  rintro N X K av h hK ⟨w, s, l, c, i, rfl, rfl, hc, hi, hT, hl, h2⟩
  have hcr : mm_rng c := rng_of (by omega) (by omega)
  have hp7 : (10 : Nat) ^ (6 + 1) = 10000000 := by decide
  have hlt := cmp_lt (Int64.ofInt c) 0
  have h00 : ((0 : Int64)).toInt = 0 := by decide
  rw [l_of hcr, h00] at hlt
  have hsg : (sgn l c).length ≤ 1 := by
    unfold sgn
    split
    · simp
    · split <;> simp
  have hnm : (num c i).length ≤ 7 := by
    unfold num
    have := dg_len 6 c.natAbs 6 (by omega)
    split
    · exact this
    · simp
  have hzt : (zet i).length ≤ 1 := by unfold zet; split <;> simp
  -- the exponent
  have s4 : ∀ s1 : RS, FR [52] [51] [] s s1 → TX s1 (((l ++ sgn l c) ++ num c i) ++ zet i) → K 61 [some (mR 1000), some (mL (Int64.ofInt c)), none, some (mI i), some (mL (Int64.ofInt (c.natAbs : Int))), none] [] (hR w s1) 0 0 := by
    intro s1 hF hT1
    refine hK [] _ _ _ _ _ _ ?_
    refine And.intro (fun q => ?_) (fun q => ?_)
    · refine h2 s1 hF ?_
      unfold wrP exq
      rw [if_neg (by omega), List.append_nil]
      exact hT1
    · refine ⟨w, s1, _, i, rfl, rfl, by omega, by omega, hT1, by simp only [List.length_append]; omega, fun s' hF' hT' => h2 s' (FR_tr hF hF' rfl rfl rfl) ?_⟩
      unfold wrP exq
      rw [if_pos (by omega)]
      exact hT'
  -- the root
  have s3 : ∀ s1 : RS, FR [52] [51] [] s s1 → TX s1 ((l ++ sgn l c) ++ num c i) → K 51 [some (mR 1000), some (mL (Int64.ofInt c)), none, some (mI i), some (mL (Int64.ofInt (c.natAbs : Int))), none] [] (hR w s1) 0 0 := by
    intro s1 hF hT1
    refine hK [61] _ _ _ _ _ _ ?_
    refine And.intro (fun q => ?_) (fun q => ?_)
    · refine s4 s1 hF ?_
      unfold zet
      rw [if_neg (by omega), List.append_nil]
      exact hT1
    · refine ⟨w, s1, _, 122, rfl, rfl, hT1, by simp only [List.length_append]; omega, fun s' hF' hT' => s4 s' (FR_tr hF hF' rfl rfl rfl) ?_⟩
      unfold zet
      rw [if_pos (by omega)]
      exact hT'
  -- the number
  have s2 : ∀ s1 : RS, FR [52] [51] [] s s1 → TX s1 (l ++ sgn l c) → K 28 [some (mR 1000), some (mL (Int64.ofInt c)), none, some (mI i), none, none] [] (hR w s1) 0 0 := by
    intro s1 hF hT1
    have hn1 : Int64.ofInt (c.natAbs : Int) = 1 ↔ c.natAbs = 1 := by
      constructor
      · intro e
        have := congrArg Int64.toInt e
        rw [lti (by omega)] at this
        have h1 : ((1 : Int64)).toInt = 1 := by decide
        rw [h1] at this
        omega
      · intro e; rw [e]; rfl
    have wn : (c.natAbs ≠ 1 ∨ i = 0) → K 45 [some (mR 1000), some (mL (Int64.ofInt c)), none, some (mI i), some (mL (Int64.ofInt (c.natAbs : Int))), none] [] (hR w s1) 0 0 := fun hh => by
      refine hK [51] _ _ _ _ _ _ ?_
      refine ⟨w, s1, _, c.natAbs, rfl, rfl, by omega, by omega, hT1, by simp only [List.length_append]; omega, fun s' hF' hT' => s3 s' (FR_tr hF hF' rfl rfl rfl) ?_⟩
      unfold num
      rw [if_pos hh]
      exact hT'
    refine hK [45, 51] _ _ _ _ _ _ ?_
    refine ⟨_, rfl, ?_⟩
    rw [absL hcr]
    refine And.intro (fun q => ?_) (fun q => ?_)
    · exact wn (Or.inl (fun e => q ((cmp_eq _ _).mpr (hn1.mpr e))))
    · have q := hn1.mp ((cmp_eq _ _).mp q)
      refine And.intro (fun q2 => ?_) (fun q2 => ?_)
      · refine s3 s1 hF ?_
        unfold num
        rw [if_neg (by omega), List.append_nil]
        exact hT1
      · exact wn (Or.inr (by omega))
  refine ⟨rfl, hK [28] _ _ _ _ _ _ ?_⟩
  refine And.intro (fun q => ?_) (fun q => ?_)
  · have hn : ¬ c < 0 := fun hh => absurd (hlt.mpr hh) (Int.not_lt.mpr q)
    conv => whnf
    rw [hT.1]
    refine And.intro (fun q2 => ?_) (fun q2 => ?_)
    · refine s2 s (FR_rf s) ?_
      unfold sgn
      rw [if_neg hn, if_neg (by omega), List.append_nil]
      exact hT
    · refine ⟨w, s, l, 43, rfl, rfl, hT, by omega, fun s' hF' hT' => s2 s' hF' ?_⟩
      unfold sgn
      rw [if_neg hn, if_pos (by omega)]
      exact hT'
  · have hn : c < 0 := hlt.mp q
    refine ⟨w, s, l, 45, rfl, rfl, hT, by omega, fun s' hF' hT' => s2 s' hF' ?_⟩
    unfold sgn
    rw [if_pos hn]
    exact hT'
theorem m_X10_writePart  (l : Launch) : mm_Met l yX10_writePart cX10_writePart 6 none (8) 0 0 (T_X10_writePart) := mm_met3 (E := e_X10_writePart ) (cd := kX10_writePart) (s_X10_writePart ) (by decide) kX10_writePart_ok (by decide +kernel) (by rfl) (Or.inl ⟨rfl, rfl⟩) rfl (mm_eok_X10 _) (mm_cq_cons (mm_CQ_of (mm_cbv wi_X10_write (tb8 (i := 92) rfl rfl) (m_X10_write l) (by omega) (by omega) rfl)) (mm_cq_cons (mm_CQ_absL wi_J9_abs_067f4 (tb8 (i := 96) rfl rfl) (by omega)) (mm_cq_cons (mm_CQ_of (mm_cbv wi_X10_writeNumber (tb8 (i := 99) rfl rfl) (m_X10_writeNumber 6 l) (by omega) (by omega) rfl)) (mm_cq_nil))))
def T_X10_say : Tr := fun av h N _ => ∃ (w : FW) (s : RS) (a : AS) (p : Int), av = [mR 1000, mI p] ∧ h = hR w s ∧ RR a s ∧ mm_rng p ∧ RP w (xSay a p).1 (xSay a p).2 N
abbrev e_X10_say : NE := (ftX10, [(370, (1, 0, 0, false, (1, 0), T_X10_isPlace)), (373, (2, 0, 0, false, (0, 10), T_X10_fail)), (184, (2, 0, 0, false, (1, 0), T_X10_cell)), (496, (3, 0, 0, false, (0, 10), T_X10_writePart)), (489, (2, 0, 0, false, (0, 10), T_X10_write))], ltX10, [], [], false, 1, (0, 0), [], [], [], false)
set_option maxHeartbeats 4000000 in
theorem s_X10_say : mm_Spec e_X10_say kX10_say 3 T_X10_say := by
  rintro N X K av h hK ⟨w, s, a, p, rfl, rfl, hr, hp, h2⟩
  have hb := fbase hr.1.1
  refine ⟨rfl, hK [30] _ _ _ _ _ _ ?_⟩
  refine ⟨p, rfl, hp, ?_⟩
  refine And.intro (fun q1 => ?_) (fun q1 => ?_)
  · have q1 := bi_c1 q1
    obtain ⟨n, rfl⟩ := Int.eq_ofNat_of_zero_le q1.1
    have e : xSay a n = (aSetS a (sayX (aP a n) (fD (aF a))).length (fun i => (sayX (aP a n) (fD (aF a))).getD i 0), 0, ((sayX (aP a n) (fD (aF a))).length : Int)) := by unfold xSay; rw [if_pos q1]; rfl
    rw [e] at h2
    have hsm : ∀ t, t < fD (aF a) → (aP a n t).natAbs ≤ 1000000 := fun t ht => by have := hr.1.2.1 n t (by omega) ht; omega
    have fin : ∀ s1 : RS, FR [52] [51] [] (sI s 1 0) s1 → TX s1 (sayX (aP a n) (fD (aF a))) → K 83 [some (mR 1000), some (mI (n : Int)), some (mI (-1))] [] (hR w s1) 0 0 := by
      intro s1 hF hT
      refine hK [] _ _ _ _ _ _ ?_
      refine RP_at h2 (s := s1) ?_ rfl (hF.1 1 rfl) hT.1
      obtain ⟨⟨a0, a1, a2, a3, a4, a5, a6⟩, r1, r2, r3, r4, r5, r6, r7, r8, r9, r10, r11⟩ := hr
      refine ⟨⟨a0, a1, a2, a3, a4, a5, sayX_len hsm (by omega) (by omega), fun i hi => ?_⟩, RA_fr (s := sI s 1 0) r1 hF rfl rfl rfl, (hF.1 5 rfl).trans r2, (hF.1 6 rfl).trans r3, ?_, ?_, (hF.1 28 rfl).trans r6, ?_, (hF.1 36 rfl).trans r8, hT.1, hT.2, ?_⟩
      · have hi : i < (sayX (aP a n) (fD (aF a))).length := hi
        show 0 ≤ (sayX (aP a n) (fD (aF a))).getD i 0 ∧ (sayX (aP a n) (fD (aF a))).getD i 0 ≤ 127
        rw [List.getD_eq_getElem?_getD, List.getElem?_eq_getElem hi]
        exact sayX_chs _ (List.getElem_mem hi)
      · rw [hF.2.2 24 rfl]; exact r4
      · rw [hF.2.1 26 rfl]; exact r5
      · rw [hF.2.1 27 rfl]; exact r7
      · rw [hF.2.1 0 rfl]; exact r11
    have loop : ∀ (m : Nat) (l : List Int) (s1 : RS) (i : Int), m ≤ fD (aF a) → i = (m : Int) - 1 → FR [52] [51] [] (sI s 1 0) s1 → TX s1 l → l.length ≤ 12 * (fD (aF a) - m) → sayL (aP a n) m l = sayL (aP a n) (fD (aF a)) [] → K 30 [some (mR 1000), some (mI (n : Int)), some (mI i)] [] (hR w s1) 0 0 := by
      intro m
      induction m with
      | zero =>
        intro l s1 i hm hi hF hT hl hr2
        have hr2 : l = sayL (aP a n) (fD (aF a)) [] := hr2
        refine hK [83] _ _ _ _ _ _ ?_
        refine And.intro (fun _ => ?_) (fun q => absurd q (by omega))
        conv => whnf
        rw [hT.1]
        refine And.intro (fun q => ?_) (fun q => ?_)
        · rw [show i = -1 by omega]
          refine fin s1 hF ?_
          unfold sayX
          rw [← hr2]
          cases l with
          | nil => exact absurd rfl q
          | cons c r => exact hT
        · rw [show i = -1 by omega]
          refine ⟨w, s1, l, 48, rfl, rfl, hT, by omega, fun s' hF' hT' => fin s' (FR_tr hF hF' rfl rfl rfl) ?_⟩
          unfold sayX
          rw [← hr2]
          cases l with
          | nil => exact hT'
          | cons c r => exact absurd q (by simp; omega)
      | succ m ih =>
        intro l s1 i hm hi hF hT hl hr2
        have ei : i = (m : Int) := by omega
        subst ei
        have hv0 := slot_of hr (i := n) (by omega) m (by omega)
        have hv : s1.2.2 24 (256 * (n : Int) + m) = Int64.ofInt (aP a n m) := by rw [hF.2.2 24 rfl]; exact hv0
        have hz : Int64.ofInt (aP a n m) = 0 ↔ aP a n m = 0 := by
          constructor
          · intro e
            have := congrArg Int64.toInt e
            rw [l_of (rng_of (by have := hsm m (by omega); omega) (by have := hsm m (by omega); omega))] at this
            exact this
          · intro e; rw [e]; rfl
        have hr2 : sayL (aP a n) m (if aP a n m = 0 then l else wrP l (aP a n m) m) = sayL (aP a n) (fD (aF a)) [] := hr2
        refine hK [30] _ _ _ _ _ _ ?_
        refine And.intro (fun q => absurd q (by omega)) (fun _ => ?_)
        refine ⟨n, m, rfl, by omega, by omega, by omega, by omega, ?_⟩
        refine And.intro (by omega) ?_
        conv => whnf
        rw [hv]
        refine And.intro (fun q => ?_) (fun q => ?_)
        · have q := hz.mp ((cmp_eq _ _).mp q)
          rw [if_pos q] at hr2
          refine And.intro (rng_of (by omega) (by omega)) ?_
          exact ih l s1 _ (by omega) (by omega) hF hT (by omega) hr2
        · have q : ¬ aP a n m = 0 := fun z => q ((cmp_eq _ _).mpr (hz.mpr z))
          rw [if_neg q] at hr2
          refine ⟨n, m, rfl, by omega, by omega, by omega, by omega, ?_⟩
          refine And.intro (by omega) ?_
          refine ⟨w, s1, l, aP a n m, m, by show [mR 1000, mL (s1.2.2 24 (256 * (n : Int) + m)), mI (m : Int)] = _; rw [hv], rfl, hsm m (by omega), by omega, hT, by omega, fun s' hF' hT' => ?_⟩
          refine And.intro (rng_of (by omega) (by omega)) ?_
          have := wrP_len (l := l) (hsm m (by omega)) (show m < 1000 by omega)
          exact ih _ s' _ (by omega) (by omega) (FR_tr hF hF' rfl rfl rfl) hT' (by omega) hr2
    have hd : s.1 15 = (fD (aF a) : Nat) := hr.2.1.2.1.2.2.1
    conv => whnf
    rw [hd]
    refine And.intro (rng_of (by omega) (by omega)) ?_
    exact loop (fD (aF a)) [] (sI (sI s 1 0) 52 0) _ (Nat.le_refl _) rfl (FR_I (FR_rf _) rfl) ⟨rfl, fun i hi => by cases hi⟩ (by simp) rfl
  · have e : xSay a p = (a, 1, 0) := by unfold xSay; rw [if_neg (bi_c0 q1)]
    rw [e] at h2
    exact ⟨w, sI s 1 0, 1, rfl, rfl, RP_fail h2 hr rfl⟩
theorem m_X10_say (l : Launch) : mm_Met l yX10_say cX10_say 3 (some .int) 9 0 0 T_X10_say := mm_met (E := e_X10_say) (cd := kX10_say) s_X10_say (by decide) kX10_say_ok (by decide +kernel) (by decide +kernel) (Or.inr (Or.inl ⟨rfl, rfl⟩)) rfl (mm_eok_X10 _) (mm_calls_cons (mm_cbs wi_X10_isPlace (tb6 (i := 173) rfl rfl) (m_X10_isPlace l) (by decide) (by decide) rfl) (mm_calls_cons (mm_cbv wi_X10_fail (tb6 (i := 180) rfl rfl) (m_X10_fail l) (by decide) (by decide) rfl) (mm_calls_cons (mm_cbs wi_X10_cell (tb5 (i := 238) rfl rfl) (m_X10_cell l) (by decide) (by decide) rfl) (mm_calls_cons (mm_cbv wi_X10_writePart (tb8 (i := 88) rfl rfl) (m_X10_writePart l) (by decide) (by decide) rfl) (mm_calls_cons (mm_cbv wi_X10_write (tb8 (i := 92) rfl rfl) (m_X10_write l) (by decide) (by decide) rfl) (mm_calls_nil))))))
