/-! the reference: feeding, the least polynomial, texts -/
def T_X10_said : Tr := fun av h N _ => ∃ (w : FW) (s : RS) (a : AS) (i : Int), av = [mR 1000, mI i] ∧ h = hR w s ∧ RR a s ∧ mm_rng i ∧ RP w a (0, xSaid a i) N
abbrev e_X10_said : NE := (ftX10, [(162, (3, 0, 0, false, (1, 0), T_X10_isIn))], ltX10, [], [], false, 1, (0, 0), [], [], [], false)
theorem s_X10_said : mm_Spec e_X10_said kX10_said 2 T_X10_said := by
  rintro N X K av h hK ⟨w, s, a, i, rfl, rfl, hr, hi, h2⟩
  obtain ⟨⟨-, -, -, -, -, -, a6, a7⟩, -, -, -, -, -, -, -, -, r9, r10, -⟩ := id hr
  have r9' : s.1 52 = (aSn a : Nat) := r9
  refine ⟨rfl, hK [] _ _ _ _ _ _ ?_⟩
  conv => whnf
  rw [r9']
  refine And.intro (rng_of (by omega) (by omega)) ?_
  refine ⟨_, _, _, rfl, ?_⟩
  rw [l_0, l_of hi, l_of (rng_of (by omega) (by omega))]
  refine And.intro (fun q => ?_) (fun q => ?_)
  · have q := bi_c0 q
    refine RP_ok h2 hr (v := -1) ?_ rfl
    unfold xSaid
    rw [if_neg (fun z => q ⟨z.1, by omega⟩)]
  · have q := bi_c1 q
    obtain ⟨n, rfl⟩ := Int.eq_ofNat_of_zero_le q.1
    refine And.intro (by omega) ?_
    refine RP_ok h2 hr (v := aSb a n) ?_ (r10 n (by omega))
    unfold xSaid
    rw [if_pos ⟨q.1, by omega⟩]
    rfl
theorem m_X10_said (l : Launch) : mm_Met l yX10_said cX10_said 2 (some .int) 1 0 0 T_X10_said := mm_met (E := e_X10_said) (cd := kX10_said) s_X10_said (by decide) kX10_said_ok (by decide +kernel) (by decide +kernel) (Or.inr (Or.inl ⟨rfl, rfl⟩)) rfl (mm_eok_X10 _) (mm_calls_cons (mm_cbs wi_X10_isIn (tb6 (i := 177) rfl rfl) (m_X10_isIn l) (by decide) (by decide) rfl) (mm_calls_nil))
theorem shrk : ∀ k : Fin 4, mm_rng (24 - 8 * (k.val : Int)) := fun k => by
  have := k.2
  exact rng_of (by omega) (by omega)
def fdW (b c d e g : Int) (i : Nat) : Int := if i < 4 then b else if i < 8 then c else if i < 12 then d else if i < 16 then e else g
theorem and255_rng (x : Int) : 0 ≤ mm_and x 255 ∧ mm_and x 255 ≤ 255 := by
  unfold mm_and
  rw [show Int32.ofInt 255 = 255 from rfl, pk_and _ (m := 255) 8 (by decide), nI_ti (by omega)]
  omega
def T_X10_feed : Tr := fun av h N _ => ∃ (w : FW) (s : RS) (a : AS) (b c d e g : Int), av = [mR 1000, mI b, mI c, mI d, mI e, mI g] ∧ h = hR w s ∧ RR a s ∧ RP w (xFeed a b c d e g).1 (0, (xFeed a b c d e g).2) N
abbrev e_X10_feed : NE := (ftX10, [], ltX10, [], [], false, 1, (0, 0), [], [], [], false)
set_option maxHeartbeats 4000000 in
theorem s_X10_feed : mm_Spec e_X10_feed kX10_feed 8 T_X10_feed := by
  rintro N X K av h hK ⟨w, s, a, b, c, d, e, g, rfl, rfl, hr, h2⟩
  have hr0 := hr
  obtain ⟨⟨a0, a1, a2, a3, a4, a5⟩, r1, r2, r3, r4, r5, r6, r7, r8⟩ := hr
  have r6' : s.1 28 = (aTn a : Nat) := r6
  obtain ⟨n, hn⟩ : ∃ n, n = aTn a := ⟨_, rfl⟩
  rw [← hn] at r6' a3
  have loop : ∀ i : Nat, i ≤ 20 → n ≤ 180 → ∀ (s' : RS) (o7 : Option MV), FR [28] [27] [] (sI s 1 0) s' → s'.1 28 = ((n + i : Nat) : Int) → (∀ j : Nat, j < n + i → s'.2.1 27 (j : Int) = if j < n then aTt a j else mm_and (mm_shr (fdW b c d e g (j - n)) (24 - 8 * (((j - n) % 4 : Nat) : Int))) 255) → K 23 [some (mR 1000), some (mI b), some (mI c), some (mI d), some (mI e), some (mI g), some (mI i), o7] [] (hR w s') 0 0 := by
    refine mm_for 20 (fun hn180 s' o7 hF h28 h27 => ?_) (fun i hi ih hn180 s' o7 hF h28 h27 => ?_)
    · have ex : xFeed a b c d e g = (aSetT a (n + 20) (fun i => if i < n then aTt a i else mm_and (mm_shr (if i < n + 4 then b else if i < n + 8 then c else if i < n + 12 then d else if i < n + 16 then e else g) (24 - 8 * (((i - n) % 4 : Nat) : Int))) 255), ((n + 20 : Nat) : Int)) := by unfold xFeed; rw [← hn, if_pos hn180]
      rw [ex] at h2
      have hW : ∀ j, n ≤ j → (if j < n + 4 then b else if j < n + 8 then c else if j < n + 12 then d else if j < n + 16 then e else g) = fdW b c d e g (j - n) := fun j hj => by
        unfold fdW
        by_cases q1 : j < n + 4
        · rw [if_pos q1, if_pos (show j - n < 4 by omega)]
        · rw [if_neg q1, if_neg (show ¬ j - n < 4 by omega)]
          by_cases q2 : j < n + 8
          · rw [if_pos q2, if_pos (show j - n < 8 by omega)]
          · rw [if_neg q2, if_neg (show ¬ j - n < 8 by omega)]
            by_cases q3 : j < n + 12
            · rw [if_pos q3, if_pos (show j - n < 12 by omega)]
            · rw [if_neg q3, if_neg (show ¬ j - n < 12 by omega)]
              by_cases q4 : j < n + 16
              · rw [if_pos q4, if_pos (show j - n < 16 by omega)]
              · rw [if_neg q4, if_neg (show ¬ j - n < 16 by omega)]
      refine hK [23] _ _ _ _ _ _ ?_
      refine And.intro (fun _ => ?_) (fun q => absurd q (by omega))
      refine RP_at h2 (s := s') ?_ rfl (hF.1 1 rfl) h28
      obtain ⟨i8, i9⟩ := r8
      refine ⟨⟨a0, a1, a2, ?_, fun j hj => ?_, a5⟩, RA_fr (s := sI s 1 0) r1 hF rfl rfl rfl, (hF.1 5 rfl).trans r2, (hF.1 6 rfl).trans r3, ?_, ?_, h28, fun j hj => ?_, (hF.1 36 rfl).trans i8, (hF.1 52 rfl).trans i9.1, ?_, ?_⟩
      · show n + 20 ≤ 200
        omega
      · show 0 ≤ (if j < n then aTt a j else mm_and (mm_shr (if j < n + 4 then b else if j < n + 8 then c else if j < n + 12 then d else if j < n + 16 then e else g) (24 - 8 * (((j - n) % 4 : Nat) : Int))) 255) ∧ (if j < n then aTt a j else mm_and (mm_shr (if j < n + 4 then b else if j < n + 8 then c else if j < n + 12 then d else if j < n + 16 then e else g) (24 - 8 * (((j - n) % 4 : Nat) : Int))) 255) ≤ 255
        by_cases q : j < n
        · rw [if_pos q]; exact a4 j (by omega)
        · rw [if_neg q]; exact and255_rng _
      · rw [hF.2.2 24 rfl]; exact r4
      · rw [hF.2.1 26 rfl]; exact r5
      · have hj : j < n + 20 := hj
        show s'.2.1 27 (j : Int) = if j < n then aTt a j else mm_and (mm_shr (if j < n + 4 then b else if j < n + 8 then c else if j < n + 12 then d else if j < n + 16 then e else g) (24 - 8 * (((j - n) % 4 : Nat) : Int))) 255
        rw [h27 j hj]
        by_cases q : j < n
        · rw [if_pos q, if_pos q]
        · rw [if_neg q, if_neg q, hW j (by omega)]
      · rw [hF.2.1 51 rfl]; exact i9.2.1
      · rw [hF.2.1 0 rfl]; exact i9.2.2
    · have hgo : ∀ x : Int, x = fdW b c d e g i → ∀ o7 : Option MV, K 23 [some (mR 1000), some (mI b), some (mI c), some (mI d), some (mI e), some (mI g), some (mI ((i : Int) + 1)), o7] [] (hR w (sI (sA s' 27 (mm_upd (s'.2.1 27) (s'.1 28) (mm_and (mm_shr x (24 - 8 * ((i % 4 : Nat) : Int))) 255))) 28 (s'.1 28 + 1))) 0 0 := fun x hx o7 => by
        refine ih hn180 (sI (sA s' 27 (mm_upd (s'.2.1 27) (s'.1 28) (mm_and (mm_shr x (24 - 8 * ((i % 4 : Nat) : Int))) 255))) 28 (s'.1 28 + 1)) o7 (FR_I (FR_A hF rfl) rfl) ?_ (fun j hj => ?_)
        · show s'.1 28 + 1 = _
          rw [h28]
          rfl
        · show mm_upd (s'.2.1 27) (s'.1 28) (mm_and (mm_shr x (24 - 8 * ((i % 4 : Nat) : Int))) 255) (j : Int) = _
          unfold mm_upd
          by_cases q : j = n + i
          · rw [if_pos (by omega), if_neg (by omega), hx, q, show n + i - n = i by omega]
          · rw [if_neg (by omega)]; exact h27 j (by omega)
      have hsh := shrk ⟨i % 4, by omega⟩
      have main : ∀ x : Int, x = fdW b c d e g i → K 76 [some (mR 1000), some (mI b), some (mI c), some (mI d), some (mI e), some (mI g), some (mI i), o7] [mI x] (hR w s') 0 0 := by
        intro x hx
        refine hK [23] _ _ _ _ _ _ ?_
        refine And.intro (dv_ok (a := i) (b := 4) (by omega) (by omega)) ?_
        conv => whnf
        rw [show ((i : Int)).tmod 4 = ((i % 4 : Nat) : Int) from tmn i 4]
        refine And.intro (rng_of (by omega) (by omega)) ?_
        refine And.intro hsh ?_
        conv => whnf
        refine And.intro (by rw [h28]; omega) ?_
        refine And.intro (by rw [h28]; exact rng_of (by omega) (by omega)) ?_
        refine And.intro (rng_of (by omega) (by omega)) ?_
        exact hgo x hx _
      refine hK [76] _ _ _ _ _ _ ?_
      refine And.intro (fun q => absurd q (by omega)) (fun _ => ?_)
      refine And.intro (fun q1 => ?_) (fun q1 => ?_)
      · refine And.intro (fun q2 => ?_) (fun q2 => ?_)
        · refine And.intro (fun q3 => ?_) (fun q3 => ?_)
          · refine And.intro (fun q4 => ?_) (fun q4 => ?_)
            · refine main g ?_
              unfold fdW
              rw [if_neg (by omega), if_neg (by omega), if_neg (by omega), if_neg (by omega)]
            · refine main e ?_
              unfold fdW
              rw [if_neg (by omega), if_neg (by omega), if_neg (by omega), if_pos (by omega)]
          · refine main d ?_
            unfold fdW
            rw [if_neg (by omega), if_neg (by omega), if_pos (by omega)]
        · refine main c ?_
          unfold fdW
          rw [if_neg (by omega), if_pos (by omega)]
      · refine main b ?_
        unfold fdW
        rw [if_pos (by omega)]
  refine ⟨rfl, hK [23] _ _ _ _ _ _ ?_⟩
  conv => whnf
  rw [r6']
  refine And.intro (rng_of (by omega) (by omega)) ?_
  refine And.intro (fun q => ?_) (fun q => ?_)
  · exact loop 0 (by omega) (by omega) (sI s 1 0) none (FR_rf _) r6' (fun j hj => by rw [if_pos (show j < n by omega)]; exact r7 j (by omega))
  · have ex : xFeed a b c d e g = (a, -1) := by unfold xFeed; rw [← hn, if_neg (by omega)]
    rw [ex] at h2
    exact RP_ok h2 hr0 rfl rfl
theorem m_X10_feed (l : Launch) : mm_Met l yX10_feed cX10_feed 8 (some .int) 0 0 0 T_X10_feed := mm_met (E := e_X10_feed) (cd := kX10_feed) s_X10_feed (by decide) kX10_feed_ok (by decide +kernel) (by decide +kernel) (Or.inr (Or.inl ⟨rfl, rfl⟩)) rfl (mm_eok_X10 _) (mm_calls_nil)
