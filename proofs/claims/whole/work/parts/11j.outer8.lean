/-! the component: counting by joining -/
theorem fz_c : fevery (fun f => fall f (fun x => Nat.beq (fsum f 0 x) x && Nat.beq (fprd f 1 x) x)) = true := by decide +kernel
theorem fz_at {f x : Nat} (hf : f < 15) (hx : x < fQ f) : fsum f 0 x = x ∧ fprd f 1 x = x := by
  have h := fall_at (fevery_at fz_c hf) hx
  rw [Bool.and_eq_true] at h
  exact ⟨Nat.eq_of_beq_eq_true h.1, Nat.eq_of_beq_eq_true h.2⟩
theorem jW_0 {f a d v n : Nat} {W W' : Nat → Nat} (h : ∀ s, s < fQ f → W s = W' s) : jW f a d W v n = jW f a d W' v n := by
  unfold jW
  refine sumN_congr n (fun x _ => ?_)
  unfold jW1
  exact sumN_congr _ (fun s hs => by rw [h s hs])
theorem jW_sum {f a d v n m : Nat} {U : Nat → Nat → Nat} : jW f a d (fun s => sumN (fun y => U y s) m) v n = sumN (fun y => jW f a d (U y) v n) m := by
  unfold jW
  rw [← sumN_swap]
  refine sumN_congr n (fun x _ => ?_)
  unfold jW1
  rw [← sumN_swap]
  refine sumN_congr _ (fun s _ => ?_)
  cases Nat.beq (fsum f s (fprd f a (pw f x d))) v with
  | true => rfl
  | false => exact ((sumN_c 0 m).trans (Nat.mul_zero m)).symm
theorem jW_one {f a d v n g : Nat} (hg : g < fQ f) : jW f a d (fun s => ind (Nat.beq g s)) v n = sumN (fun x => ind (Nat.beq (fsum f g (fprd f a (pw f x d))) v)) n := by
  unfold jW
  refine sumN_congr n (fun x _ => ?_)
  unfold jW1
  have e := sumN_one (c := ind (Nat.beq (fsum f g (fprd f a (pw f x d))) v)) (t := g) (fQ f)
  rw [if_pos hg] at e
  rw [← e]
  refine sumN_congr _ (fun s _ => ?_)
  dsimp only
  cases hb : Nat.beq g s with
  | true =>
    rw [← Nat.eq_of_beq_eq_true hb]
    cases Nat.beq (fsum f g (fprd f a (pw f x d))) v <;> rfl
  | false => cases Nat.beq (fsum f s (fprd f a (pw f x d))) v <;> rfl
theorem beq_sym (a b : Nat) : Nat.beq a b = Nat.beq b a := by
  cases h : Nat.beq b a with
  | true => rw [Nat.eq_of_beq_eq_true h]; exact Nat.beq_refl a
  | false =>
    cases h2 : Nat.beq a b with
    | true => rw [Nat.eq_of_beq_eq_true h2, Nat.beq_refl] at h; cases h
    | false => rfl
/-- the first join -/
theorem jW_a {f a d v : Nat} (hf : f < 15) (ha : a < fQ f) {W : Nat → Nat} (hW : ∀ s, s < fQ f → W s = ind (Nat.beq s 0)) : jW f a d W v (fQ f) = sumN (fun x => ind (Nat.beq (fprd f a (pw f x d)) v)) (fQ f) := by
  have hb := fbase hf
  rw [jW_0 (W' := fun s => ind (Nat.beq 0 s)) (fun s hs => by rw [hW s hs, beq_sym]), jW_one (by omega)]
  exact sumN_congr _ (fun x hx => by rw [(fz_at hf (fprd_lt hf ha (pw_lt hf hx d))).1])
/-- a join behind a sum of single ways -/
theorem jW_b {f a d v m : Nat} {g : Nat → Nat} (hg : ∀ y, y < m → g y < fQ f) : jW f a d (fun s => sumN (fun y => ind (Nat.beq (g y) s)) m) v (fQ f) = sumN (fun y => sumN (fun x => ind (Nat.beq (fsum f (g y) (fprd f a (pw f x d))) v)) (fQ f)) m := by
  rw [jW_sum]
  exact sumN_congr m (fun y hy => jW_one (hg y hy))
theorem jW_sol {f a d b e v : Nat} (hf : f < 15) (ha : a < fQ f) {W W1 : Nat → Nat} (hW : ∀ s, s < fQ f → W s = ind (Nat.beq s 0)) (h1 : ∀ s, s < fQ f → W1 s = jW f a d W s (fQ f)) : jW f b e W1 v (fQ f) = solN f a d b e v := by
  rw [jW_0 (W' := fun s => sumN (fun x => ind (Nat.beq (fprd f a (pw f x d)) s)) (fQ f)) (fun s hs => by rw [h1 s hs, jW_a hf ha hW]), jW_b (fun y hy => fprd_lt hf ha (pw_lt hf hy d))]
  rfl
theorem jW_wys {f d v n : Nat} (hf : f < 15) {W : Nat → Nat} (hW : ∀ s, s < fQ f → W s = wysN f d n s) : jW f 1 d W v (fQ f) = wysN f d (n + 1) v := by
  rw [jW_0 hW]
  unfold jW jW1
  rw [sumN_swap]
  show _ = sumN (fun x => sumN (fun y => match Nat.beq (fsum f x (pw f y d)) v with | true => wysN f d n x | false => 0) (fQ f)) (fQ f)
  exact sumN_congr _ (fun s _ => sumN_congr _ (fun x hx => by
    rw [(fz_at hf (pw_lt hf hx d)).2]
    cases Nat.beq (fsum f s (pw f x d)) v <;> rfl))
theorem ind_1 (b : Bool) : ind b ≤ 1 := by cases b <;> decide
theorem sol_bd {f a d b e c : Nat} (hf : f < 15) : solN f a d b e c ≤ 729 := by
  have hb := fbase hf
  exact Nat.le_trans (sumN_le27 (fun x => sumN_le27 (fun y => ind_1 _) hb.1) hb.1) (by decide)
def T_X9_solutions : Tr := fun av h N X => ∃ (M : List ME) (c : CS) (a : AS) (x d y e z : Int), av = [mR 0, mI x, mI d, mI y, mI e, mI z] ∧ h = hC (none, M) c ∧ CR a c ∧ CP M a (xSolutions (aF a) x d y e z) N X
abbrev e_X9_solutions : NE := (ftX9, [(168, (2, 1, 6, true, (0, 9), T_X9_needElement)), (262, (2, 1, 6, true, (0, 9), T_X9_needExponent)), (265, (1, 0, 0, false, (0, 0), T_X0_begin)), (268, (3, 0, 0, false, (0, 0), T_X0_join)), (271, (2, 0, 0, false, (0, 0), T_X0_waysTo))], ltX9, [], [], false, 1, (5, 30), [], [], [], true)
theorem s_X9_solutions : mm_Spec e_X9_solutions kX9_solutions 6 T_X9_solutions := by
  rintro N X K av h hK ⟨M, c, a, x, d, y, e, z, rfl, rfl, hc, h2⟩
  have h0 := CR_0 hc
  have hb := fbase h0.1
  refine ⟨rfl, hK [] _ _ _ _ _ _ ?_⟩
  refine ⟨M, c, aF a, x, rfl, rfl, h0, fun q1 => ?_, fun q => CP_1 h2 (if_neg (fun z => q z.1)) hc⟩
  refine ⟨M, c, aF a, y, rfl, rfl, h0, fun q2 => ?_, fun q => CP_1 h2 (if_neg (fun z => q z.2.1)) hc⟩
  refine ⟨M, c, aF a, z, rfl, rfl, h0, fun q3 => ?_, fun q => CP_1 h2 (if_neg (fun z => q z.2.2)) hc⟩
  have ex : xSolutions (aF a) x d y e z = if ok30 d ∧ ok30 e then ((0, (solN (aF a) x.toNat d.toNat y.toNat e.toNat z.toNat : Nat)) : Nat × Int) else (2, 0) := if_pos ⟨q1, q2, q3⟩
  refine ⟨M, c, d, rfl, rfl, fun q4 => ?_, fun q => CP_2 h2 (ex.trans (if_neg (fun z => q z.1))) hc⟩
  refine ⟨M, c, e, rfl, rfl, fun q5 => ?_, fun q => CP_2 h2 (ex.trans (if_neg (fun z => q z.2))) hc⟩
  rw [ex, if_pos ⟨q4, q5⟩] at h2
  obtain ⟨x, rfl⟩ := Int.eq_ofNat_of_zero_le q1.1
  obtain ⟨y, rfl⟩ := Int.eq_ofNat_of_zero_le q2.1
  obtain ⟨z, rfl⟩ := Int.eq_ofNat_of_zero_le q3.1
  obtain ⟨d, rfl⟩ := Int.eq_ofNat_of_zero_le (show 0 ≤ d by omega)
  obtain ⟨e, rfl⟩ := Int.eq_ofNat_of_zero_le (show 0 ≤ e by omega)
  refine ⟨(none, M), c, rfl, rfl, fun b1 hb1 => ?_⟩
  refine ⟨(none, M), kL c 20 b1, aF a, x, d, fun s => ind (Nat.beq s 0), rfl, rfl, hc.2.1.1, by omega, by omega, by omega, fun v hv => hb1 v (by omega), fun b2 b3 hb2 => ?_⟩
  refine ⟨(none, M), kS (kL (kL (kL c 20 b1) 20 b2) 21 b3) (!(kL c 20 b1).2.2.2.2), aF a, y, e, fun s => jW (aF a) x d (fun s => ind (Nat.beq s 0)) s (fQ (aF a)), rfl, rfl, hc.2.1.1, by omega, by omega, by omega, fun v hv => hb2 v hv, fun b4 b5 hb4 => ?_⟩
  refine ⟨(none, M), _, z, solN (aF a) x d y e z, rfl, rfl, by omega, ?_, Nat.lt_of_le_of_lt (sol_bd h0.1) (by decide), ?_⟩
  · rw [← jW_sol (W := fun s => ind (Nat.beq s 0)) h0.1 (by omega) (fun s _ => rfl) (fun s _ => rfl)]
    exact hb4 z (by omega)
  · exact CP_0 h2 rfl (show CR a c from hc)
theorem m_X9_solutions (l : Launch) (hl : l.stackTraces = false) : mm_MetX l yX9_solutions cX9_solutions 6 (some .int) 7 5 30 T_X9_solutions := mm_metX (E := e_X9_solutions) (cd := kX9_solutions) s_X9_solutions (by decide) kX9_solutions_ok (by decide +kernel) (by decide +kernel) (Or.inr (Or.inl ⟨rfl, rfl⟩)) rfl hl (by decide) (by decide +kernel) (mm_eokt (mm_eok_X9 _)) (mm_cz_cons (Or.inr (mm_cxv wi_X9_needElement (tb4 (i := 112) rfl rfl) (m_X9_needElement l hl) (by decide) (by decide) rfl)) (mm_cz_cons (Or.inr (mm_cxv wi_X9_needExponent (tb4 (i := 221) rfl rfl) (m_X9_needExponent l hl) (by decide) (by decide) rfl)) (mm_cz_cons (Or.inl (mm_CQ_of (mm_cbv wi_X0_begin (tb4 (i := 226) rfl rfl) (m_X0_begin l) (by decide) (by decide) rfl))) (mm_cz_cons (Or.inl (mm_CQ_of (mm_cbv wi_X0_join (tb4 (i := 231) rfl rfl) (m_X0_join l) (by decide) (by decide) rfl))) (mm_cz_cons (Or.inl (mm_CQ_of (mm_cbv wi_X0_waysTo (tb4 (i := 238) rfl rfl) (m_X0_waysTo l) (by decide) (by decide) rfl))) (mm_cz_nil))))))
