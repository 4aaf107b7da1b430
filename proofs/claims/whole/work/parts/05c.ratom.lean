/-! the reference: atoms -/
def pAtG (x : TP) (f : Nat) (dp : Bool) (A : Nat → PR (List OP)) (p : Nat) : PR (List OP) := if isOp (tTk x p) then (match dp with | true => .inl (3, tSt x p) | false => pOpn x f A p) else pPlain x f p
theorem PG_st {a : AS} {x : TP} {s : RS} {E : Option (List VL)} {n : Nat} {r : Int} {R : PR (List OP)} (h : PG a x s E n r R) : PX x s (pSt R) := by
  cases R with
  | inl e => exact h.1
  | inr v => exact h.1
theorem PG_38 {a : AS} {x : TP} {s : RS} {E : Option (List VL)} {n : Nat} {r : Int} {R : PR (List OP)} (h : PG a x s E n r R) : s.1 38 = (n : Int) ∨ s.1 38 = (n : Int) + 1 := by
  cases R with
  | inl e => exact h.2
  | inr v => exact Or.inr h.2.2.1
def pOp1 (x : TP) (dp : Bool) (p : Nat) : PP := match dp with
  | true => .inl (3, tSt x p)
  | false => .inr (tNx x p)
theorem pOp1_of {x : TP} {dp : Bool} {o p : Nat} (h1 : dp = true → o = 6) (h2 : dp = false → o ≠ 6) : pNx x (pDeep x o (.inr p)) = pOp1 x dp p := by
  unfold pDeep pOp1
  cases dp with
  | true => rw [if_pos (h1 rfl)]; rfl
  | false => rw [if_neg (h2 rfl)]; rfl
theorem pAtG_40 {x : TP} {f p : Nat} {dp : Bool} {A : Nat → PR (List OP)} (h : tTk x p = 40) : pAtG x f dp A p = pB (pL (pRw x A) (pOp1 x dp p)) (fun p ops => pB (pSkip x 41 p) (fun p _ => .inr (p, ops))) := by
  unfold pAtG pOp1
  rw [if_pos (Or.inl h)]
  cases dp with
  | true => rfl
  | false =>
    show pOpn x f A p = _
    unfold pOpn
    rw [if_pos h]
    rfl
theorem pAtG_45 {x : TP} {f p : Nat} {dp : Bool} {A : Nat → PR (List OP)} (h : tTk x p = 45) : pAtG x f dp A p = pB (pL A (pOp1 x dp p)) (fun p ops => .inr (p, ops ++ [(7, 0, 0, 0)])) := by
  unfold pAtG pOp1
  rw [if_pos (Or.inr (Or.inl h))]
  cases dp with
  | true => rfl
  | false =>
    show pOpn x f A p = _
    unfold pOpn
    rw [if_neg (by omega), if_pos h]
    rfl
theorem pAtG_126 {x : TP} {f p : Nat} {dp : Bool} {A : Nat → PR (List OP)} (h : tTk x p = 126) : pAtG x f dp A p = pB (pL A (pOp1 x dp p)) (fun p ops => .inr (p, ops ++ [(8, (fN f : Int) - 1, 0, 0)])) := by
  unfold pAtG pOp1
  rw [if_pos (Or.inr (Or.inr (Or.inl h)))]
  cases dp with
  | true => rfl
  | false =>
    show pOpn x f A p = _
    unfold pOpn
    rw [if_neg (by omega), if_neg (by omega), if_pos h]
    rfl
theorem pAtG_109 {x : TP} {f p : Nat} {dp : Bool} {A : Nat → PR (List OP)} (h : tTk x p = 109) : pAtG x f dp A p = pB (pL A (pSt (pL (pSkip x 46) (pSt (pL (pNum x (cMv f)) (pOp1 x dp p)))))) (fun q ops => .inr (q, ops ++ [(8, ((pVl 0 (pL (pNum x (cMv f)) (pOp1 x dp p)) : Nat) : Int), 0, 0)])) := by
  unfold pAtG pOp1
  rw [if_pos (Or.inr (Or.inr (Or.inr h)))]
  cases dp with
  | true => rfl
  | false =>
    show pOpn x f A p = pB (pL A (pSt (pL (pSkip x 46) (pSt (pNum x (cMv f) (tNx x p)))))) (fun q ops => .inr (q, ops ++ [(8, ((pVl 0 (pNum x (cMv f) (tNx x p)) : Nat) : Int), 0, 0)]))
    unfold pOpn
    rw [if_neg (by omega), if_neg (by omega), if_neg (by omega)]
    cases h1 : pNum x (cMv f) (tNx x p) with
    | inl e => rfl
    | inr v =>
      show pB (pSkip x 46 v.1) _ = pB (pL A (pSt (pSkip x 46 v.1))) _
      cases h2 : pSkip x 46 v.1 with
      | inl e => rfl
      | inr u => rfl
theorem pAtG_pl {x : TP} {f p : Nat} {dp : Bool} {A : Nat → PR (List OP)} (h : ¬ isOp (tTk x p)) : pAtG x f dp A p = pPlain x f p := by
  unfold pAtG
  rw [if_neg h]
theorem comes_re {f n : Nat} {V : VL} {L : List VL} {s : RS} {Lf : Nat → Int → Int64} (hf : fD f ≤ 256) (hE : RE f s (some L) n) (hs : slotS f (8 + n) V (s.2.2 24) (Lf 24)) (hL : ∀ k, k ≠ 18 → k ≠ 24 → k ≠ 25 → Lf k = s.2.2 k) :
    (bi (small f V) = 0 → FRq s (sI (s.1, s.2.1, Lf) 40 1) ∧ FR [40] [] [18, 24, 25] s (sI (s.1, s.2.1, Lf) 40 1) ∧ RE f (sI (s.1, s.2.1, Lf) 40 1) (tst f V L) (n + 1)) ∧ (¬ bi (small f V) = 0 → FRq s (s.1, s.2.1, Lf) ∧ FR [40] [] [18, 24, 25] s (s.1, s.2.1, Lf) ∧ RE f (s.1, s.2.1, Lf) (tst f V L) (n + 1)) := by
  have hF := FRq_g (by omega) hL hs
  have hF2 : FR [40] [] [18, 24, 25] s (s.1, s.2.1, Lf) := ⟨fun _ _ => rfl, fun _ _ => rfl, hF.1.2.2⟩
  have hlow : ∀ i : Int, i < 256 * ((8 + n : Nat) : Int) → Lf 24 i = s.2.2 24 i := fun i hi => by rw [hs i, if_neg (by omega)]
  have hv : ∀ t : Nat, t < fD f → Lf 24 (256 * ((8 + n : Nat) : Int) + t) = V t := fun t ht => slotS_at hf hs ht
  have hz : ∀ t : Nat, fD f ≤ t → t < 256 → Lf 24 (256 * ((8 + n : Nat) : Int) + t) = 0 := fun t h1 h2 => by rw [hs, if_pos (by omega), if_neg (by omega)]
  refine ⟨fun q => ?_, fun q => ?_⟩
  · exact ⟨FRq_I hF rfl, FR_I hF2 rfl, RE_mk (s' := sI (s.1, s.2.1, Lf) 40 1) hf hE rfl (bi_small.1 q) hlow (fun _ => hv) hz⟩
  · exact ⟨hF, hF2, RE_mk (s' := (s.1, s.2.1, Lf)) hf hE rfl (hE.2.2.2.1.trans (bi_small.2 q)) hlow (fun _ => hv) hz⟩
abbrev e_X10_readAtom (O O3 : Nat → Int → Prop) (A : AS → TP → Nat → PR (List OP)) : NE := (ftX10, [(309, (1, 0, 0, false, (0, 10), T_X10_opens)), (312, (1, 0, 0, false, (0, 10), (TG O3 (fun a x => pRw x (A a x))))), (315, (2, 0, 0, false, (0, 10), T_X10_must)), (293, (1, 0, 0, false, (0, 10), (TG O A))), (267, (1, 0, 0, false, (0, 10), T_X10_isGoing)), (318, (1, 0, 0, false, (0, 10), T_X10_zero)), (271, (5, 0, 0, false, (0, 10), T_X10_sum)), (275, (2, 0, 0, false, (0, 10), T_X10_comes)), (321, (3, 0, 0, false, (0, 10), T_X10_moveHere)), (324, (1, 0, 0, false, (0, 10), T_X10_readMoving)), (327, (2, 0, 0, false, (0, 10), T_X10_readPlain))], ltX10, [], [], false, 1, (0, 0), [], [], [], false)
set_option maxHeartbeats 16000000 in
theorem s_X10_readAtom (O O3 On : Nat → Int → Prop) (A : AS → TP → Nat → PR (List OP)) (dp : Bool) (hOn : ∀ n o, On n o → n ≤ 14 ∧ (0 ≤ o ∧ o ≤ 6) ∧ (dp = true → o = 6) ∧ (dp = false → o ≠ 6 ∧ O3 n (o + 1) ∧ O n (o + 1))) : mm_Spec (e_X10_readAtom O O3 A) kX10_readAtom 3 (TG On (fun a x => pAtG x (aF a) dp (A a x))) := by
  rintro N X K av h hK ⟨w, s, a, x, P, n, E, rfl, rfl, hW, hP, hE, hn, h38, h37, hO, h2⟩
  have hb := fbase hW.1.1.1
  have hT := hW.2.1
  refine ⟨rfl, hK [] _ _ _ _ _ _ ?_⟩
  cases P with
  | inl e =>
    have b1 := hP.1
    have b2 := hP.2.1
    refine And.intro (fun q => absurd q (by omega)) (fun _ => ?_)
    exact h2 s 8 (FRq_rf s) rfl ⟨hP, Or.inl h38⟩
  | inr p =>
    have p1 := hP.1
    have h32 := hP.2.2.2.1
    obtain ⟨c1, c2, c3, c4⟩ := hOn _ _ (hO p rfl)
    obtain ⟨o, ho⟩ : ∃ o : Nat, s.1 37 = (o : Int) := ⟨(s.1 37).toNat, by omega⟩
    have hop : pNx x (pDeep x o (.inr p)) = pOp1 x dp p := pOp1_of (fun z => by have := c3 z; omega) (fun z => by have := (c4 z).1; omega)
    have h2 : ∀ (s' : RS) (r : Int), FRq s s' → s'.1 37 = s.1 37 → PG a x s' E n r (pAtG x (aF a) dp (A a x) p) → N (some (mI r)) (hR w s') := h2
    -- what opens leaves
    have opn : ∀ s1 : RS, FR (37 :: F6) [] [] s s1 → s1.1 38 = (n : Int) ∧ FRq s s1 ∧ RW a x s1 ∧ RE (aF a) s1 E n := by
      intro s1 hF
      have hFq := FRq_of hF rfl
      exact ⟨(hF.1 38 rfl).trans h38, hFq, RW_q hW hFq, RE_fr hE (hF.1 39 rfl) (hF.1 40 rfl) (hF.2.2 24 rfl) (by omega)⟩
    have oA : ∀ (s1 : RS) (p1 : Nat), s1.1 37 = (o : Int) + 1 → (dp = true → False) → O n (s1.1 37) := fun s1 _ h z => by
      rw [h, ← ho]
      cases hd : dp with
      | true => exact (z hd).elim
      | false => exact (c4 hd).2.2
    have oR : ∀ (s1 : RS) (p1 : Nat), s1.1 37 = (o : Int) + 1 → (dp = true → False) → O3 n (s1.1 37) := fun s1 _ h z => by
      rw [h, ← ho]
      cases hd : dp with
      | true => exact (z hd).elim
      | false => exact (c4 hd).2.1
    have dpf : ∀ p1 : Nat, pOp1 x dp p = .inr p1 → (dp = true → False) := fun p1 z hd => by rw [hd] at z; cases z
    refine And.intro (fun _ => ?_) (fun q => absurd q (by omega))
    conv => whnf
    rw [h38]
    refine And.intro (rng_of (by omega) (by omega)) ?_
    conv => whnf
    rw [h32]
    refine And.intro (fun q => ?_) (fun q => And.intro (fun q2 => ?_) (fun q2 => And.intro (fun q3 => ?_) (fun q3 => And.intro (fun q4 => ?_) (fun q4 => ?_))))
    · -- a bracket
      have q := (rtk_c (by omega)).mp q
      rw [pAtG_40 q] at h2
      refine ⟨w, s, x, .inr p, o, rfl, rfl, hT, hP, ho, by omega, fun s1 hF1 hP1 h371 => ?_⟩
      rw [hop] at hP1
      have h371 : s1.1 37 = (o : Int) + 1 := h371
      obtain ⟨h381, hFq1, hW1, hE1⟩ := opn s1 hF1
      refine ⟨w, s1, a, x, pOp1 x dp p, n, E, rfl, rfl, hW1, hP1, hE1, hn, h381, by omega, fun p1 z => oR s1 p1 h371 (dpf p1 z), fun s2 r hF2 h372 hG => ?_⟩
      have hFq2 := FRq_tr hFq1 hF2
      refine ⟨w, s2, x, _, 41, rfl, rfl, TPR_q hT hFq2, PG_st hG, by omega, fun s3 hF3 hP3 => ?_⟩
      have h373 : s3.1 37 = (o : Int) + 1 := (hF3.1 37 rfl).trans (h372.trans h371)
      conv => whnf
      rw [h373]
      refine And.intro (rng_of (by omega) (by omega)) ?_
      have hF3q := FRq_tr hFq2 (FRq_of hF3 rfl)
      have hF4 : FR [37] [] [] s3 (sI s3 37 ((o : Int) + 1 - 1)) := FR_I (FR_rf s3) rfl
      refine h2 (sI s3 37 ((o : Int) + 1 - 1)) r (FRq_I hF3q rfl) (by show (o : Int) + 1 - 1 = s.1 37; omega) ?_
      have hG : PG a x s2 E n r (pL (pRw x (A a x)) (pOp1 x dp p)) := hG
      have hP3 : PX x s3 (pSt (pL (pSkip x 41) (pSt (pL (pRw x (A a x)) (pOp1 x dp p))))) := hP3
      cases hr : pL (pRw x (A a x)) (pOp1 x dp p) with
      | inl e =>
        rw [hr] at hG hP3
        refine ⟨PX_fr hP3 hF4 rfl, ?_⟩
        rw [show (sI s3 37 ((o : Int) + 1 - 1)).1 38 = s2.1 38 from hF3.1 38 rfl]
        exact hG.2
      | inr v =>
        rw [hr] at hG hP3
        obtain ⟨g1, g2, g3, rfl⟩ := hG
        have h383 : (sI s3 37 ((o : Int) + 1 - 1)).1 38 = (n : Int) + 1 := (hF3.1 38 rfl).trans g3
        have hP3 : PX x s3 (pSt (pSkip x 41 v.1)) := hP3
        show PG a x _ E n _ (pB (pSkip x 41 v.1) (fun p _ => .inr (p, v.2)))
        cases hr2 : pSkip x 41 v.1 with
        | inl e =>
          rw [hr2] at hP3
          exact ⟨PX_fr hP3 hF4 rfl, Or.inr h383⟩
        | inr u =>
          rw [hr2] at hP3
          exact ⟨PX_fr hP3 hF4 rfl, RE_fr g2 (hF3.1 39 rfl) (hF3.1 40 rfl) (hF3.2.2 24 rfl) (by omega), h383, rfl⟩
    · -- less
      have q2 := (rtk_c (by omega)).mp q2
      rw [pAtG_45 q2] at h2
      refine ⟨w, s, x, .inr p, o, rfl, rfl, hT, hP, ho, by omega, fun s1 hF1 hP1 h371 => ?_⟩
      rw [hop] at hP1
      have h371 : s1.1 37 = (o : Int) + 1 := h371
      obtain ⟨h381, hFq1, hW1, hE1⟩ := opn s1 hF1
      refine ⟨w, s1, a, x, pOp1 x dp p, n, E, rfl, rfl, hW1, hP1, hE1, hn, h381, by omega, fun p1 z => oA s1 p1 h371 (dpf p1 z), fun s2 r hF2 h372 hG => ?_⟩
      have hFq2 := FRq_tr hFq1 hF2
      conv => whnf
      rw [show s2.1 37 = (o : Int) + 1 from h372.trans h371]
      refine And.intro (rng_of (by omega) (by omega)) ?_
      have hF3 : FR [37] [] [] s2 (sI s2 37 ((o : Int) + 1 - 1)) := by exact FR_I (FR_rf s2) rfl
      have h373 : (sI s2 37 ((o : Int) + 1 - 1)).1 37 = s.1 37 := by show (o : Int) + 1 - 1 = s.1 37; omega
      have hFq3 := FRq_tr hFq2 (FRq_of hF3 rfl)
      refine ⟨w, (sI s2 37 ((o : Int) + 1 - 1)), rfl, by rfl, ?_⟩
      cases hr : pL (A a x) (pOp1 x dp p) with
      | inl e =>
        rw [hr] at hG h2
        rw [going_bad (PX_fr hG.1 hF3 rfl)]
        refine And.intro (fun _ => ?_) (fun q => absurd q (by omega))
        refine h2 (sI s2 37 ((o : Int) + 1 - 1)) r hFq3 h373 ⟨PX_fr hG.1 hF3 rfl, ?_⟩
        rw [hF3.1 38 rfl]
        exact hG.2
      | inr v =>
        rw [hr] at hG h2
        obtain ⟨g1, g2, g3, rfl⟩ := hG
        have g1 := PX_fr g1 hF3 rfl
        have g2 := RE_fr g2 (hF3.1 39 rfl) (hF3.1 40 rfl) (hF3.2.2 24 rfl) (by omega)
        have g3 := (hF3.1 38 rfl).trans g3
        cases hE' : evs a v.2 E with
        | none =>
          rw [hE'] at g2
          rw [going_none g2]
          refine And.intro (fun _ => ?_) (fun q => absurd q (by omega))
          refine h2 (sI s2 37 ((o : Int) + 1 - 1)) _ hFq3 h373 ⟨g1, ?_, g3, rfl⟩
          rw [evs_app, hE']
          exact g2
        | some L =>
          rw [hE'] at g2
          obtain ⟨V, L1, rfl⟩ := len1 g2
          obtain ⟨g2b, hV⟩ := RE_pop g2
          rw [going_some g2 g1.1]
          refine And.intro (fun q => absurd q (by omega)) (fun _ => ?_)
          refine ⟨w, (sI s2 37 ((o : Int) + 1 - 1)), rfl, rfl, fun vz hz => ?_⟩
          have hFz : FR [] [] [24] (sI s2 37 ((o : Int) + 1 - 1)) (sL (sI s2 37 ((o : Int) + 1 - 1)) 24 vz) := FR_L (FR_rf (sI s2 37 ((o : Int) + 1 - 1))) rfl
          have g2z : RE (aF a) (sL (sI s2 37 ((o : Int) + 1 - 1)) 24 vz) (some L1) n := RE_fr (s := (sI s2 37 ((o : Int) + 1 - 1))) g2b rfl rfl rfl (by omega) |> fun _ => ⟨g2b.1, g2b.2.1, g2b.2.2.1, g2b.2.2.2.1, g2b.2.2.2.2.1, RSt_low (s := (sI s2 37 ((o : Int) + 1 - 1))) (by omega) (fun i hi => by
            rw [g2b.2.2.2.2.1] at hi
            show vz i = _
            rw [hz, if_neg (by omega)]) g2b.2.2.2.2.2⟩
          refine ⟨w, sL (sI s2 37 ((o : Int) + 1 - 1)) 24 vz, aF a, 8 + n, 32, 8 + n, -1, rfl, rfl, RQ_fr (RA_q hW.1 hFq3).2.1 hFz rfl rfl rfl, by omega, by omega, by omega, fun Lf hL hs => ?_⟩
          have hcg : ∀ t, t < fD (aF a) → (sL (sI s2 37 ((o : Int) + 1 - 1)) 24 vz).2.2 24 (256 * ((32 : Nat) : Int) + t) + (-1) * (sL (sI s2 37 ((o : Int) + 1 - 1)) 24 vz).2.2 24 (256 * ((8 + n : Nat) : Int) + t) = 0 + (-1) * V t := fun t ht => by
            show vz _ + (-1) * vz _ = _
            rw [hz, hz, if_pos (by omega), if_neg (by omega), hV t ht]
          have hs2 : slotS (aF a) (8 + n) (fun t => 0 + (-1) * V t) ((sL (sI s2 37 ((o : Int) + 1 - 1)) 24 vz).2.2 24) (Lf 24) := slotS_congr hcg hs
          rw [show bi (small (aF a) (fun t => (sL (sI s2 37 ((o : Int) + 1 - 1)) 24 vz).2.2 24 (256 * ((32 : Nat) : Int) + t) + (-1) * (sL (sI s2 37 ((o : Int) + 1 - 1)) 24 vz).2.2 24 (256 * ((8 + n : Nat) : Int) + t))) = bi (small (aF a) (fun t => 0 + (-1) * V t)) from small_congr hcg]
          have hFz2 : FRq (sI s2 37 ((o : Int) + 1 - 1)) (sL (sI s2 37 ((o : Int) + 1 - 1)) 24 vz) := ⟨FR_mono hFz rfl rfl rfl, fun i hi => by show vz i = _; rw [hz, if_neg (by omega)]⟩
          have done : ∀ s4 : RS, FRq (sL (sI s2 37 ((o : Int) + 1 - 1)) 24 vz) s4 → FR [40] [] [18, 24, 25] (sL (sI s2 37 ((o : Int) + 1 - 1)) 24 vz) s4 → RE (aF a) s4 (tst (aF a) (fun t => 0 + (-1) * V t) L1) (n + 1) → N (some (mI ((8 + n : Nat) : Int))) (hR w s4) := by
            intro s4 hF4 hF5 hE4
            refine h2 s4 _ (FRq_tr (FRq_tr hFq3 hFz2) hF4) ((hF5.1 37 rfl).trans h373) ⟨PX_fr (PX_fr g1 hFz rfl) hF5 rfl, ?_, (hF5.1 38 rfl).trans g3, rfl⟩
            rw [evs_app, hE']
            exact hE4
          obtain ⟨k1, k2⟩ := comes_re (s := sL (sI s2 37 ((o : Int) + 1 - 1)) 24 vz) (by omega) g2z hs2 hL
          refine ⟨w, ((sL (sI s2 37 ((o : Int) + 1 - 1)) 24 vz).1, (sL (sI s2 37 ((o : Int) + 1 - 1)) 24 vz).2.1, Lf), _, rfl, rfl, fun q => ?_, fun q => ?_⟩
          · obtain ⟨y1, y2, y3⟩ := k1 q
            exact done _ y1 y2 y3
          · obtain ⟨y1, y2, y3⟩ := k2 q
            exact done _ y1 y2 y3
    · -- moved
      have q3 := (rtk_c (by omega)).mp q3
      rw [pAtG_109 q3] at h2
      refine ⟨w, s, x, .inr p, o, rfl, rfl, hT, hP, ho, by omega, fun s1 hF1 hP1 h371 => ?_⟩
      rw [hop] at hP1
      have h371 : s1.1 37 = (o : Int) + 1 := h371
      obtain ⟨h381, hFq1, hW1, hE1⟩ := opn s1 hF1
      refine ⟨w, s1, aF a, x, pOp1 x dp p, rfl, rfl, hW1.1.2.1, hW1.2.1, hP1, fun s2 hF2 hP2 => ?_⟩
      obtain ⟨R0, hR0⟩ : ∃ R0, R0 = pL (pNum x (cMv (aF a))) (pOp1 x dp p) := ⟨_, rfl⟩
      rw [← hR0] at hP2 h2 ⊢
      refine ⟨w, s2, x, pSt R0, 46, rfl, rfl, TPR_fr hW1.2.1 hF2 rfl rfl, hP2, by omega, fun s3 hF3 hP3 => ?_⟩
      have hF13 := FR_6 hF2 hF3
      have hFq3 := FRq_tr hFq1 (FRq_of hF13 rfl)
      have h373 : s3.1 37 = (o : Int) + 1 := (hF13.1 37 rfl).trans h371
      refine ⟨w, s3, a, x, pSt (pL (pSkip x 46) (pSt R0)), n, E, rfl, rfl, RW_q hW hFq3, hP3, RE_6 hE1 hF13 (by omega), hn, (hF13.1 38 rfl).trans h381, by omega, fun p1 z => oA s3 p1 h373 (fun hd => ?_), fun s4 r hF4 h374 hG => ?_⟩
      · rw [hR0, hd] at z
        cases z
      have hFq4 := FRq_tr hFq3 hF4
      conv => whnf
      rw [show s4.1 37 = (o : Int) + 1 from h374.trans h373]
      refine And.intro (rng_of (by omega) (by omega)) ?_
      have hF5 : FR [37] [] [] s4 (sI s4 37 ((o : Int) + 1 - 1)) := by exact FR_I (FR_rf s4) rfl
      have h375 : (sI s4 37 ((o : Int) + 1 - 1)).1 37 = s.1 37 := by show (o : Int) + 1 - 1 = s.1 37; omega
      have hFq5 := FRq_tr hFq4 (FRq_of hF5 rfl)
      refine ⟨w, (sI s4 37 ((o : Int) + 1 - 1)), rfl, by rfl, ?_⟩
      cases hr : pL (A a x) (pSt (pL (pSkip x 46) (pSt R0))) with
      | inl e =>
        rw [hr] at hG h2
        rw [going_bad (PX_fr hG.1 hF5 rfl)]
        refine And.intro (fun _ => ?_) (fun q => absurd q (by omega))
        refine h2 (sI s4 37 ((o : Int) + 1 - 1)) r hFq5 h375 ⟨PX_fr hG.1 hF5 rfl, ?_⟩
        rw [hF5.1 38 rfl]
        exact hG.2
      | inr v =>
        rw [hr] at hG h2
        obtain ⟨g1, g2, g3, rfl⟩ := hG
        have g1 := PX_fr g1 hF5 rfl
        have g2 := RE_fr g2 (hF5.1 39 rfl) (hF5.1 40 rfl) (hF5.2.2 24 rfl) (by omega)
        have g3 := (hF5.1 38 rfl).trans g3
        cases hE' : evs a v.2 E with
        | none =>
          rw [hE'] at g2
          rw [going_none g2]
          refine And.intro (fun _ => ?_) (fun q => absurd q (by omega))
          refine h2 (sI s4 37 ((o : Int) + 1 - 1)) _ hFq5 h375 ⟨g1, ?_, g3, rfl⟩
          rw [evs_app, hE']
          exact g2
        | some L =>
          rw [hE'] at g2
          obtain ⟨V, L1, rfl⟩ := len1 g2
          have hby : pVl 0 R0 ≤ 506 := by
            cases hz : R0 with
            | inl e => exact Nat.zero_le _
            | inr u =>
              rw [hz] at hR0
              have hm := of_decide_eq_true (pNum_val hR0.symm).1
              have h3 := hm.2.1
              show u.2 ≤ 506
              omega
          rw [going_some g2 g1.1]
          refine And.intro (fun q => absurd q (by omega)) (fun _ => ?_)
          refine ⟨w, (sI s4 37 ((o : Int) + 1 - 1)), aF a, n, pVl 0 R0, V, L1, rfl, rfl, (RA_q hW.1 hFq5).2.1, hby, hn, g2, fun s6 hF6 hF7 hE6 => ?_⟩
          refine h2 s6 _ (FRq_tr hFq5 hF6) ((hF7.1 37 rfl).trans h375) ⟨PX_fr g1 hF7 rfl, ?_, (hF7.1 38 rfl).trans g3, rfl⟩
          rw [evs_app, hE']
          exact hE6
    · -- conjugate
      have q4 := (rtk_c (by omega)).mp q4
      rw [pAtG_126 q4] at h2
      refine ⟨w, s, x, .inr p, o, rfl, rfl, hT, hP, ho, by omega, fun s1 hF1 hP1 h371 => ?_⟩
      rw [hop] at hP1
      have h371 : s1.1 37 = (o : Int) + 1 := h371
      obtain ⟨h381, hFq1, hW1, hE1⟩ := opn s1 hF1
      refine ⟨w, s1, a, x, pOp1 x dp p, n, E, rfl, rfl, hW1, hP1, hE1, hn, h381, by omega, fun p1 z => oA s1 p1 h371 (dpf p1 z), fun s2 r hF2 h372 hG => ?_⟩
      have hFq2 := FRq_tr hFq1 hF2
      conv => whnf
      rw [show s2.1 37 = (o : Int) + 1 from h372.trans h371]
      refine And.intro (rng_of (by omega) (by omega)) ?_
      have hF3 : FR [37] [] [] s2 (sI s2 37 ((o : Int) + 1 - 1)) := by exact FR_I (FR_rf s2) rfl
      have h373 : (sI s2 37 ((o : Int) + 1 - 1)).1 37 = s.1 37 := by show (o : Int) + 1 - 1 = s.1 37; omega
      have hFq3 := FRq_tr hFq2 (FRq_of hF3 rfl)
      refine ⟨w, (sI s2 37 ((o : Int) + 1 - 1)), rfl, by rfl, ?_⟩
      cases hr : pL (A a x) (pOp1 x dp p) with
      | inl e =>
        rw [hr] at hG h2
        rw [going_bad (PX_fr hG.1 hF3 rfl)]
        refine And.intro (fun _ => ?_) (fun q => absurd q (by omega))
        refine h2 (sI s2 37 ((o : Int) + 1 - 1)) r hFq3 h373 ⟨PX_fr hG.1 hF3 rfl, ?_⟩
        rw [hF3.1 38 rfl]
        exact hG.2
      | inr v =>
        rw [hr] at hG h2
        obtain ⟨g1, g2, g3, rfl⟩ := hG
        have g1 := PX_fr g1 hF3 rfl
        have g2 := RE_fr g2 (hF3.1 39 rfl) (hF3.1 40 rfl) (hF3.2.2 24 rfl) (by omega)
        have g3 := (hF3.1 38 rfl).trans g3
        cases hE' : evs a v.2 E with
        | none =>
          rw [hE'] at g2
          rw [going_none g2]
          refine And.intro (fun _ => ?_) (fun q => absurd q (by omega))
          refine h2 (sI s2 37 ((o : Int) + 1 - 1)) _ hFq3 h373 ⟨g1, ?_, g3, rfl⟩
          rw [evs_app, hE']
          exact g2
        | some L =>
          rw [hE'] at g2
          obtain ⟨V, L1, rfl⟩ := len1 g2
          have hQ3 := (RA_q hW.1 hFq3).2.1
          rw [going_some g2 g1.1]
          refine And.intro (fun q => absurd q (by omega)) (fun _ => ?_)
          conv => whnf
          rw [show s2.1 14 = (fN (aF a) : Int) from hQ3.2.1]
          refine And.intro (rng_of (by omega) (by omega)) ?_
          refine ⟨w, (sI s2 37 ((o : Int) + 1 - 1)), aF a, n, fN (aF a) - 1, V, L1, by rw [show ((fN (aF a) - 1 : Nat) : Int) = (fN (aF a) : Int) - 1 by omega]; rfl, rfl, hQ3, by omega, hn, g2, fun s6 hF6 hF7 hE6 => ?_⟩
          refine h2 s6 _ (FRq_tr hFq3 hF6) ((hF7.1 37 rfl).trans h373) ⟨PX_fr g1 hF7 rfl, ?_, (hF7.1 38 rfl).trans g3, rfl⟩
          rw [evs_app, hE']
          show RE (aF a) s6 (tst (aF a) (mvV (aF a) V ((fN (aF a) : Int) - 1).toNat) L1) (n + 1)
          rw [show ((fN (aF a) : Int) - 1).toNat = fN (aF a) - 1 by omega]
          exact hE6
    · -- plain
      have hno : ¬ isOp (tTk x p) := fun z => by
        rcases z with z | z | z | z
        · exact q ((rtk_c (by omega)).mpr z)
        · exact q2 ((rtk_c (by omega)).mpr z)
        · exact q4 ((rtk_c (by omega)).mpr z)
        · exact q3 ((rtk_c (by omega)).mpr z)
      rw [pAtG_pl hno] at h2
      conv => whnf
      rw [h38]
      refine And.intro (rng_of (by omega) (by omega)) ?_
      have hF1 : FR [38] [] [] s (sI s 38 ((n : Int) + 1)) := FR_I (FR_rf s) rfl
      have hFq1 := FRq_of hF1 rfl
      refine ⟨w, sI s 38 ((n : Int) + 1), a, x, p, n, E, rfl, rfl, RW_q hW hFq1, PX_fr hP hF1 rfl, RE_fr hE rfl rfl rfl (by omega), hn, fun s2 hF2 h372 h382 hPO => ?_⟩
      refine h2 s2 _ (FRq_tr hFq1 hF2) h372 ?_
      cases hr : pPlain x (aF a) p with
      | inl e =>
        rw [hr] at hPO
        exact ⟨hPO, Or.inr h382⟩
      | inr v =>
        rw [hr] at hPO
        exact ⟨hPO.1, hPO.2, h382, rfl⟩
theorem m_X10_readAtom (O O3 On : Nat → Int → Prop) (A : AS → TP → Nat → PR (List OP)) (dp : Bool) (hOn : ∀ n o, On n o → n ≤ 14 ∧ (0 ≤ o ∧ o ≤ 6) ∧ (dp = true → o = 6) ∧ (dp = false → o ≠ 6 ∧ O3 n (o + 1) ∧ O n (o + 1))) (lv : Nat) (hlv : 9 ≤ lv) (ih : ∀ l : Launch, mm_Met l yX10_readAtom cX10_readAtom 3 (some .int) lv 0 0 (TG O A)) (ih2 : ∀ l : Launch, mm_Met l yX10_readRow cX10_readRow 5 (some .int) (lv + 3) 0 0 (TG O3 (fun a x => pRw x (A a x)))) (l : Launch) : mm_Met l yX10_readAtom cX10_readAtom 3 (some .int) (lv + 4) 0 0 (TG On (fun a x => pAtG x (aF a) dp (A a x))) := mm_met (E := e_X10_readAtom O O3 A ) (cd := kX10_readAtom) (s_X10_readAtom  O O3 On A dp hOn) (by decide) kX10_readAtom_ok (by decide +kernel) (by rfl) (Or.inr (Or.inl ⟨rfl, rfl⟩)) rfl (mm_eok_X10 _) (mm_calls_cons (mm_cbv wi_X10_opens (tb6 (i := 216) rfl rfl) (m_X10_opens l) (by omega) (by omega) rfl) (mm_calls_cons (mm_cbv wi_X10_readRow (tb6 (i := 200) rfl rfl) (ih2 l) (by omega) (by omega) rfl) (mm_calls_cons (mm_cbv wi_X10_must (tb6 (i := 228) rfl rfl) (m_X10_must l) (by omega) (by omega) rfl) (mm_calls_cons (mm_cbv wi_X10_readAtom (tb6 (i := 212) rfl rfl) (ih l) (by omega) (by omega) rfl) (mm_calls_cons (mm_cbv wi_X10_isGoing (tb6 (i := 232) rfl rfl) (m_X10_isGoing l) (by omega) (by omega) rfl) (mm_calls_cons (mm_cbv wi_X10_zero (tb6 (i := 236) rfl rfl) (m_X10_zero l) (by omega) (by omega) rfl) (mm_calls_cons (mm_cbv wi_X10_sum (tb7 (i := 0) rfl rfl) (m_X10_sum l) (by omega) (by omega) rfl) (mm_calls_cons (mm_cbv wi_X10_comes (tb7 (i := 14) rfl rfl) (m_X10_comes l) (by omega) (by omega) rfl) (mm_calls_cons (mm_cbv wi_X10_moveHere (tb7 (i := 18) rfl rfl) (m_X10_moveHere l) (by omega) (by omega) rfl) (mm_calls_cons (mm_cbv wi_X10_readMoving (tb7 (i := 34) rfl rfl) (m_X10_readMoving l) (by omega) (by omega) rfl) (mm_calls_cons (mm_cbv wi_X10_readPlain (tb7 (i := 49) rfl rfl) (m_X10_readPlain l) (by omega) (by omega) rfl) (mm_calls_nil))))))))))))
/-! the levels -/
abbrev OL (c d n : Nat) (o : Int) : Prop := d ≤ 6 ∧ o = 6 - (d : Int) ∧ n + 2 * d ≤ c
abbrev OF (_ : Nat) (_ : Int) : Prop := False
theorem pAt_0 (x : TP) (f : Nat) (A : Nat → PR (List OP)) : pAt x f 0 = pAtG x f true A := rfl
theorem pAt_s (x : TP) (f d : Nat) : pAt x f (d + 1) = pAtG x f false (pAt x f d) := rfl
abbrev e_X10_readAtomB  : NE := (ftX10, [], ltX10, [], [], false, 1, (0, 0), [], [], [], false)
theorem s_X10_readAtomB (A : AS → TP → Nat → PR (List OP)) : mm_Spec e_X10_readAtomB kX10_readAtom 3 (TG OF A) := by
  rintro N X K av h hK ⟨w, s, a, x, P, n, E, rfl, rfl, hW, hP, hE, hn, h38, h37, hO, h2⟩
  refine ⟨rfl, hK [] _ _ _ _ _ _ ?_⟩
  cases P with
  | inl e =>
    have b1 := hP.1
    have b2 := hP.2.1
    refine And.intro (fun q => absurd q (by omega)) (fun _ => ?_)
    exact h2 s 8 (FRq_rf s) rfl ⟨hP, Or.inl h38⟩
  | inr p => exact (hO p rfl).elim
theorem m_X10_readAtomB (A : AS → TP → Nat → PR (List OP)) (l : Launch) : mm_Met l yX10_readAtom cX10_readAtom 3 (some .int) (9) 0 0 (TG OF A) := mm_met (E := e_X10_readAtomB ) (cd := kX10_readAtom) (s_X10_readAtomB  A) (by decide) kX10_readAtom_ok (by decide +kernel) (by rfl) (Or.inr (Or.inl ⟨rfl, rfl⟩)) rfl (mm_eok_X10 _) (mm_calls_nil)
theorem m_row_of (O O2 O3 : Nat → Int → Prop) (A : AS → TP → Nat → PR (List OP)) (h1 : ∀ n o, O2 n o → O n o ∧ O (n + 1) o ∧ n ≤ 18) (h2 : ∀ n o, O3 n o → O2 n o ∧ O2 (n + 1) o ∧ n ≤ 18) (hM : ∀ a x, MO x (A a x)) (lv : Nat) (hlv : 8 ≤ lv) (ih : ∀ l : Launch, mm_Met l yX10_readAtom cX10_readAtom 3 (some .int) lv 0 0 (TG O A)) (l : Launch) : mm_Met l yX10_readRow cX10_readRow 5 (some .int) (lv + 3) 0 0 (TG O3 (fun a x => pRw x (A a x))) :=
  m_X10_readRow O2 O3 A h2 hM (lv + 2) (by omega) (fun l => m_X10_readTerm O O2 A h1 hM (lv + 1) (by omega) (fun l => m_X10_readFactor O A lv hlv ih l) l) l
theorem m_atom : ∀ (d : Nat) (l : Launch), mm_Met l yX10_readAtom cX10_readAtom 3 (some .int) (13 + 4 * d) 0 0 (TG (OL 14 d) (fun a x => pAt x (aF a) d))
  | 0, l => m_X10_readAtom OF OF (OL 14 0) (fun a x => pAt x (aF a) 0) true (fun n o h => ⟨by omega, by omega, fun _ => by omega, fun z => nomatch z⟩) 9 (by omega) (m_X10_readAtomB _) (m_row_of OF OF OF _ (fun _ _ h => h.elim) (fun _ _ h => h.elim) (fun a x => MO_at x (aF a) 0) 9 (by omega) (m_X10_readAtomB _)) l
  | d + 1, l => m_X10_readAtom (OL 14 d) (OL 12 d) (OL 14 (d + 1)) (fun a x => pAt x (aF a) d) false (fun n o h => ⟨by omega, by omega, fun z => (nomatch z), fun _ => ⟨by omega, by omega, by omega⟩⟩) (13 + 4 * d) (by omega) (m_atom d) (m_row_of (OL 14 d) (OL 13 d) (OL 12 d) _ (fun n o h => ⟨by omega, by omega, by omega⟩) (fun n o h => ⟨by omega, by omega, by omega⟩) (fun a x => MO_at x (aF a) d) (13 + 4 * d) (by omega) (m_atom d)) l
theorem m_row (l : Launch) : mm_Met l yX10_readRow cX10_readRow 5 (some .int) 40 0 0 (TG (OL 12 6) (fun a x => pRw x (pAt x (aF a) 6))) :=
  m_row_of (OL 14 6) (OL 13 6) (OL 12 6) _ (fun n o h => ⟨by omega, by omega, by omega⟩) (fun n o h => ⟨by omega, by omega, by omega⟩) (fun a x => MO_at x (aF a) 6) 37 (by omega) (m_atom 6) l
