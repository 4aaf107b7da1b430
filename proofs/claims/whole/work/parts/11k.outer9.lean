/-! the component: points and rows -/
theorem pts_bd {f d e g c : Nat} (hf : f < 15) : ptsN f d e g c ≤ 19683 := by
  have hb := fbase hf
  exact Nat.le_trans (sumN_le27 (fun x => sumN_le27 (fun y => sumN_le27 (fun z => ind_1 _) hb.1) hb.1) hb.1) (by decide)
theorem jW_pts {f d e g v : Nat} (hf : f < 15) {W W1 W2 : Nat → Nat} (hW : ∀ s, s < fQ f → W s = ind (Nat.beq s 0)) (h1 : ∀ s, s < fQ f → W1 s = jW f 1 d W s (fQ f)) (h2 : ∀ s, s < fQ f → W2 s = jW f 1 e W1 s (fQ f)) : jW f 1 g W2 v (fQ f) = ptsN f d e g v := by
  have hb := fbase hf
  have e1 : ∀ s, s < fQ f → W2 s = sumN (fun x => sumN (fun y => ind (Nat.beq (fsum f (pw f x d) (pw f y e)) s)) (fQ f)) (fQ f) := fun s hs => by
    rw [h2 s hs, jW_sol (d := d) hf (show 1 < fQ f by omega) hW h1]
    unfold solN
    exact sumN_congr _ (fun x hx => sumN_congr _ (fun y hy => by rw [(fz_at hf (pw_lt hf hx d)).2, (fz_at hf (pw_lt hf hy e)).2]))
  rw [jW_0 e1, jW_sum]
  unfold ptsN
  refine sumN_congr _ (fun x hx => ?_)
  rw [jW_b (fun y hy => fsum_lt hf (pw_lt hf hx d) (pw_lt hf hy e))]
  exact sumN_congr _ (fun y hy => sumN_congr _ (fun z hz => by rw [(fz_at hf (pw_lt hf hz g)).2]))
def T_X9_points : Tr := fun av h N X => ∃ (M : List ME) (c : CS) (a : AS) (d e g z : Int), av = [mR 0, mI d, mI e, mI g, mI z] ∧ h = hC (none, M) c ∧ CR a c ∧ CP M a (xPoints (aF a) d e g z) N X
abbrev e_X9_points : NE := (ftX9, [(168, (2, 1, 6, true, (0, 9), T_X9_needElement)), (262, (2, 1, 6, true, (0, 9), T_X9_needExponent)), (265, (1, 0, 0, false, (0, 0), T_X0_begin)), (268, (3, 0, 0, false, (0, 0), T_X0_join)), (271, (2, 0, 0, false, (0, 0), T_X0_waysTo))], ltX9, [], [], false, 1, (4, 24), [], [], [], true)
theorem s_X9_points : mm_Spec e_X9_points kX9_points 5 T_X9_points := by
  rintro N X K av h hK ⟨M, c, a, d, e, g, z, rfl, rfl, hc, h2⟩
  have h0 := CR_0 hc
  have hb := fbase h0.1
  refine ⟨rfl, hK [] _ _ _ _ _ _ ?_⟩
  refine ⟨M, c, aF a, z, rfl, rfl, h0, fun q3 => ?_, fun q => CP_1 h2 (if_neg q) hc⟩
  have ex : xPoints (aF a) d e g z = if ok30 d ∧ ok30 e ∧ ok30 g then ((0, (ptsN (aF a) d.toNat e.toNat g.toNat z.toNat : Nat)) : Nat × Int) else (2, 0) := if_pos q3
  refine ⟨M, c, d, rfl, rfl, fun q4 => ?_, fun q => CP_2 h2 (ex.trans (if_neg (fun z => q z.1))) hc⟩
  refine ⟨M, c, e, rfl, rfl, fun q5 => ?_, fun q => CP_2 h2 (ex.trans (if_neg (fun z => q z.2.1))) hc⟩
  refine ⟨M, c, g, rfl, rfl, fun q6 => ?_, fun q => CP_2 h2 (ex.trans (if_neg (fun z => q z.2.2))) hc⟩
  rw [ex, if_pos ⟨q4, q5, q6⟩] at h2
  obtain ⟨z, rfl⟩ := Int.eq_ofNat_of_zero_le q3.1
  obtain ⟨d, rfl⟩ := Int.eq_ofNat_of_zero_le (show 0 ≤ d by omega)
  obtain ⟨e, rfl⟩ := Int.eq_ofNat_of_zero_le (show 0 ≤ e by omega)
  obtain ⟨g, rfl⟩ := Int.eq_ofNat_of_zero_le (show 0 ≤ g by omega)
  refine ⟨(none, M), c, rfl, rfl, fun b1 hb1 => ?_⟩
  refine ⟨(none, M), kL c 20 b1, aF a, 1, d, fun s => ind (Nat.beq s 0), rfl, rfl, hc.2.1.1, by omega, by omega, by omega, fun v hv => hb1 v (by omega), fun b2 b3 hb2 => ?_⟩
  refine ⟨(none, M), kS (kL (kL (kL c 20 b1) 20 b2) 21 b3) (!(kL c 20 b1).2.2.2.2), aF a, 1, e, fun s => jW (aF a) 1 d (fun s => ind (Nat.beq s 0)) s (fQ (aF a)), rfl, rfl, hc.2.1.1, by omega, by omega, by omega, fun v hv => hb2 v hv, fun b4 b5 hb4 => ?_⟩
  refine ⟨(none, M), _, aF a, 1, g, fun s => jW (aF a) 1 e (fun s => jW (aF a) 1 d (fun s => ind (Nat.beq s 0)) s (fQ (aF a))) s (fQ (aF a)), rfl, rfl, hc.2.1.1, by omega, by omega, by omega, fun v hv => hb4 v hv, fun b6 b7 hb6 => ?_⟩
  refine ⟨(none, M), _, z, ptsN (aF a) d e g z, rfl, rfl, by omega, ?_, Nat.lt_of_le_of_lt (pts_bd h0.1) (by decide), ?_⟩
  · rw [← jW_pts (W := fun s => ind (Nat.beq s 0)) h0.1 (fun s _ => rfl) (fun s _ => rfl) (fun s _ => rfl)]
    exact hb6 z (by omega)
  · exact CP_0 h2 rfl (show CR a c from hc)
theorem m_X9_points (l : Launch) (hl : l.stackTraces = false) : mm_MetX l yX9_points cX9_points 5 (some .int) 7 4 24 T_X9_points := mm_metX (E := e_X9_points) (cd := kX9_points) s_X9_points (by decide) kX9_points_ok (by decide +kernel) (by decide +kernel) (Or.inr (Or.inl ⟨rfl, rfl⟩)) rfl hl (by decide) (by decide +kernel) (mm_eokt (mm_eok_X9 _)) (mm_cz_cons (Or.inr (mm_cxv wi_X9_needElement (tb4 (i := 112) rfl rfl) (m_X9_needElement l hl) (by decide) (by decide) rfl)) (mm_cz_cons (Or.inr (mm_cxv wi_X9_needExponent (tb4 (i := 221) rfl rfl) (m_X9_needExponent l hl) (by decide) (by decide) rfl)) (mm_cz_cons (Or.inl (mm_CQ_of (mm_cbv wi_X0_begin (tb4 (i := 226) rfl rfl) (m_X0_begin l) (by decide) (by decide) rfl))) (mm_cz_cons (Or.inl (mm_CQ_of (mm_cbv wi_X0_join (tb4 (i := 231) rfl rfl) (m_X0_join l) (by decide) (by decide) rfl))) (mm_cz_cons (Or.inl (mm_CQ_of (mm_cbv wi_X0_waysTo (tb4 (i := 238) rfl rfl) (m_X0_waysTo l) (by decide) (by decide) rfl))) (mm_cz_nil))))))
theorem wys_bd {f d n v : Nat} (hf : f < 15) (hn : n ≤ 6) (hv : v < fQ f) : wysN f d n v < 2147483648 := by
  have hb := fbase hf
  have h1 := wys_tot (d := d) hf n
  have h2 : fQ f ^ n ≤ 27 ^ 6 := Nat.le_trans (Nat.pow_le_pow_left hb.1 n) (Nat.pow_le_pow_right (by omega) hn)
  have h3 : sumN (wysN f d n) (v + 1) ≤ sumN (wysN f d n) (fQ f) := sumN_mono _ (by omega)
  rw [sumN_s] at h3
  have : (27 : Nat) ^ 6 = 387420489 := by decide
  omega
def T_X9_rows : Tr := fun av h N X => ∃ (M : List ME) (c : CS) (a : AS) (n d z : Int), av = [mR 0, mI n, mI d, mI z] ∧ h = hC (none, M) c ∧ CR a c ∧ CP M a (xRows (aF a) n d z) N X
abbrev e_X9_rows : NE := (ftX9, [(168, (2, 1, 6, true, (0, 9), T_X9_needElement)), (262, (2, 1, 6, true, (0, 9), T_X9_needExponent)), (265, (1, 0, 0, false, (0, 0), T_X0_begin)), (268, (3, 0, 0, false, (0, 0), T_X0_join)), (271, (2, 0, 0, false, (0, 0), T_X0_waysTo))], ltX9, [], [], false, 1, (3, 18), [], [], [(21, xI)], true)
theorem s_X9_rows : mm_Spec e_X9_rows kX9_rows 5 T_X9_rows := by
  rintro N X K av h hK ⟨M, c, a, n, d, z, rfl, rfl, hc, h2⟩
  have h0 := CR_0 hc
  have hb := fbase h0.1
  have loop : ∀ (n d z : Nat), n ≤ 6 → 1 ≤ d → d ≤ 30 → z < fQ (aF a) → CP M a (0, (wysN (aF a) d n z : Int)) N X → ∀ (k i : Nat) (c1 : CS), i + k = n → CR a c1 → (∀ v : Nat, v < fQ (aF a) → c1.2.2.1 20 (v : Int) = Int64.ofInt (wysN (aF a) d i v : Nat)) → K 42 [some (mR 0), some (mI (n : Int)), some (mI (d : Int)), some (mI (z : Int)), some (mI (i : Int))] [] (hC (none, M) c1) (0 + 1 + 1) (0 + 6 + 6) := by
    intro n d z hn hd1 hd2 hz h2 k
    induction k with
    | zero =>
      intro i c1 hi hc1 hw
      refine hK [42] _ _ _ _ _ _ ?_
      refine And.intro (fun _ => ?_) (fun q => absurd q (by omega))
      refine ⟨(none, M), c1, z, wysN (aF a) d n z, rfl, rfl, by omega, ?_, wys_bd h0.1 hn hz, ?_⟩
      · rw [hw z hz, show i = n by omega]
      · exact CP_0 h2 rfl hc1
    | succ k ih =>
      intro i c1 hi hc1 hw
      refine hK [42] _ _ _ _ _ _ ?_
      refine And.intro (fun q => absurd q (by omega)) (fun _ => ?_)
      refine ⟨(none, M), c1, aF a, 1, d, wysN (aF a) d i, rfl, rfl, hc1.2.1.1, by omega, by omega, by omega, hw, fun b b2 hb1 => ?_⟩
      refine And.intro (rng_of (by omega) (by omega)) ?_
      refine ih (i + 1) (kS (kL (kL c1 20 b) 21 b2) (!c1.2.2.2.2)) (by omega) (show CR a c1 from hc1) (fun v hv => ?_)
      rw [← jW_wys h0.1 (fun s _ => rfl)]
      exact hb1 v hv
  refine ⟨rfl, hK [42] _ _ _ _ _ _ ?_⟩
  refine ⟨M, c, aF a, z, rfl, rfl, h0, fun q3 => ?_, fun q => CP_1 h2 (if_neg q) hc⟩
  have ex : xRows (aF a) n d z = if (1 ≤ n ∧ n ≤ 6) ∧ ok30 d then ((0, (wysN (aF a) d.toNat n.toNat z.toNat : Nat)) : Nat × Int) else (2, 0) := if_pos q3
  refine ⟨M, c, d, rfl, rfl, fun q4 => ?_, fun q => CP_2 h2 (ex.trans (if_neg (fun z => q z.2))) hc⟩
  refine And.intro (fun q5 => ?_) (fun q5 => ?_)
  · exact CP_2 h2 (ex.trans (if_neg (fun z => by omega))) hc
  refine And.intro (fun q6 => ?_) (fun q6 => ?_)
  · rw [ex, if_pos ⟨⟨by omega, q6⟩, q4⟩] at h2
    obtain ⟨z, rfl⟩ := Int.eq_ofNat_of_zero_le q3.1
    obtain ⟨d, rfl⟩ := Int.eq_ofNat_of_zero_le (show 0 ≤ d by omega)
    obtain ⟨n, rfl⟩ := Int.eq_ofNat_of_zero_le (show 0 ≤ n by omega)
    refine ⟨(none, M), c, rfl, rfl, fun b1 hb1 => ?_⟩
    exact loop n d z (by omega) (by omega) (by omega) (by omega) h2 n 0 (kL c 20 b1) (by omega) (show CR a c from hc) (fun v hv => hb1 v (by omega))
  · exact CP_2 h2 (ex.trans (if_neg (fun z => by omega))) hc
theorem m_X9_rows (l : Launch) (hl : l.stackTraces = false) : mm_MetX l yX9_rows cX9_rows 5 (some .int) 7 3 18 T_X9_rows := mm_metX (E := e_X9_rows) (cd := kX9_rows) s_X9_rows (by decide) kX9_rows_ok (by decide +kernel) (by decide +kernel) (Or.inr (Or.inl ⟨rfl, rfl⟩)) rfl hl (by decide) (by decide +kernel) (mm_eokt (mm_eok_X9 _)) (mm_cz_cons (Or.inr (mm_cxv wi_X9_needElement (tb4 (i := 112) rfl rfl) (m_X9_needElement l hl) (by decide) (by decide) rfl)) (mm_cz_cons (Or.inr (mm_cxv wi_X9_needExponent (tb4 (i := 221) rfl rfl) (m_X9_needExponent l hl) (by decide) (by decide) rfl)) (mm_cz_cons (Or.inl (mm_CQ_of (mm_cbv wi_X0_begin (tb4 (i := 226) rfl rfl) (m_X0_begin l) (by decide) (by decide) rfl))) (mm_cz_cons (Or.inl (mm_CQ_of (mm_cbv wi_X0_join (tb4 (i := 231) rfl rfl) (m_X0_join l) (by decide) (by decide) rfl))) (mm_cz_cons (Or.inl (mm_CQ_of (mm_cbv wi_X0_waysTo (tb4 (i := 238) rfl rfl) (m_X0_waysTo l) (by decide) (by decide) rfl))) (mm_cz_nil))))))
