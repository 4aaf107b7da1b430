/-! the reference: solutions of equations, sets, classes -/
def T_X10_solutions : Tr := fun av h N _ => ∃ (w : FW) (s : RS) (a : AS) (x d y e z : Int), av = [mR 1000, mI x, mI d, mI y, mI e, mI z] ∧ h = hR w s ∧ RR a s ∧ mm_rng x ∧ mm_rng d ∧ mm_rng y ∧ mm_rng e ∧ mm_rng z ∧ RP w a (xSolutions (aF a) x d y e z) N
abbrev e_X10_solutions : NE := (ftX10, [(387, (2, 0, 0, false, (0, 10), T_X10_isElement)), (162, (3, 0, 0, false, (1, 0), T_X10_isIn)), (159, (3, 0, 0, false, (0, 10), T_X10_raise)), (126, (3, 0, 0, false, (0, 10), T_X10_productOf)), (139, (3, 0, 0, false, (0, 10), T_X10_sumOf))], ltX10, [], [], false, 1, (0, 0), [], [], [], false)
set_option maxHeartbeats 8000000 in
theorem s_X10_solutions : mm_Spec e_X10_solutions kX10_solutions 10 T_X10_solutions := by
  rintro N X K av h hK ⟨w, s, a, x, d, y, e, z, rfl, rfl, hr, hx, hd, hy, he, hz, h2⟩
  have hT0 := hr.2.1.1
  have hq0 := hT0.2.2.2.1
  obtain ⟨f, hf0⟩ : ∃ f, f = aF a := ⟨_, rfl⟩
  have hf : f < 15 := by rw [hf0]; exact hr.1.1
  rw [← hf0] at hT0 hq0 h2
  have hT : RT f (sI s 1 0) := hT0
  have hq : (sI s 1 0).1 4 = (fQ f : Nat) := hq0
  obtain ⟨b1, b2, b3, b4, b5, b6, b7, b8, b9, b10, b11, b12⟩ := fbase hf
  have h1 : ¬ (okE f x ∧ okE f y ∧ okE f z) → N (some (mI 0)) (hR w (sI s 1 1)) := fun q => RP_at (s := sI s 1 1) h2 hr (by unfold xSolutions; rw [if_neg q]) rfl rfl
  refine ⟨rfl, hK [78] _ _ _ _ _ _ ?_⟩
  refine ⟨w, s, x, fQ f, rfl, rfl, hx, hq0, by omega, ?_⟩
  refine And.intro (fun q1 => ?_) (fun q1 => ?_)
  · refine And.intro (fun q => absurd q (by omega)) (fun _ => ?_)
    exact h1 (fun z => bi_c0 q1 z.1)
  have q1 := bi_c1 q1
  refine ⟨w, s, y, fQ f, rfl, rfl, hy, hq0, by omega, ?_⟩
  refine And.intro (fun q2 => ?_) (fun q2 => ?_)
  · refine And.intro (fun q => absurd q (by omega)) (fun _ => ?_)
    exact h1 (fun z => bi_c0 q2 z.2.1)
  have q2 := bi_c1 q2
  refine ⟨w, s, z, fQ f, rfl, rfl, hz, hq0, by omega, ?_⟩
  refine And.intro (fun q3 => ?_) (fun q3 => ?_)
  rotate_left
  · refine And.intro (fun q => absurd q (by omega)) (fun _ => ?_)
    exact h1 (fun z => bi_c0 q3 z.2.2)
  have q3 := bi_c1 q3
  have h5 : ¬ (ok30 d ∧ ok30 e) → N (some (mI 0)) (hR w (sI s 1 2)) := fun q => RP_at (s := sI s 1 2) h2 hr (by unfold xSolutions; rw [if_pos ⟨q1, q2, q3⟩, if_neg q]) rfl rfl
  refine ⟨_, _, _, rfl, ?_⟩
  rw [l_1, l_of hd, lc30]
  refine And.intro (fun q4 => ?_) (fun q4 => ?_)
  · refine And.intro (fun q => absurd q (by omega)) (fun _ => ?_)
    exact h5 (fun z => bi_c0 q4 z.1)
  have q4 := bi_c1 q4
  refine ⟨_, _, _, rfl, ?_⟩
  rw [l_1, l_of he, lc30]
  refine And.intro (fun q5 => ?_) (fun q5 => ?_)
  rotate_left
  · refine And.intro (fun q => absurd q (by omega)) (fun _ => ?_)
    exact h5 (fun z => bi_c0 q5 z.2)
  have q5 := bi_c1 q5
  obtain ⟨xa, rfl⟩ := Int.eq_ofNat_of_zero_le q1.1
  obtain ⟨ya, rfl⟩ := Int.eq_ofNat_of_zero_le q2.1
  obtain ⟨za, rfl⟩ := Int.eq_ofNat_of_zero_le q3.1
  obtain ⟨da, rfl⟩ := Int.eq_ofNat_of_zero_le (show 0 ≤ d by omega)
  obtain ⟨ea, rfl⟩ := Int.eq_ofNat_of_zero_le (show 0 ≤ e by omega)
  have hxx : xSolutions f xa da ya ea za = (0, (solN f xa da ya ea za : Int)) := by unfold xSolutions; rw [if_pos ⟨q1, q2, q3⟩, if_pos ⟨q4, q5⟩]; rfl
  have hxa : xa < fQ f := by omega
  have hya : ya < fQ f := by omega
  have hIle : ∀ i, sumN (fun y => ind (Nat.beq (fsum f (fprd f xa (pw f i da)) (fprd f ya (pw f y ea))) za)) (fQ f) ≤ 27 := fun i => by
    have := sumN_le27 (g := fun y => ind (Nat.beq (fsum f (fprd f xa (pw f i da)) (fprd f ya (pw f y ea))) za)) (M := 1) (n := fQ f) (fun _ => ind_le _) b1
    omega
  have loopX : ∀ i : Nat, i ≤ fQ f → ∀ o8 o9 : Option MV, K 78 [some (mR 1000), some (mI xa), some (mI da), some (mI ya), some (mI ea), some (mI za), some (mI (sumN (fun x => sumN (fun y => ind (Nat.beq (fsum f (fprd f xa (pw f x da)) (fprd f ya (pw f y ea))) za)) (fQ f)) i : Nat)), some (mI i), o8, o9] [] (hR w (sI s 1 0)) 0 0 := by
    refine mm_for (fQ f) (fun o8 o9 => ?_) (fun i hi ih o8 o9 => ?_)
    · refine hK [78] _ _ _ _ _ _ ?_
      refine And.intro (fun _ => ?_) (fun q => absurd q (by omega))
      exact RP_ok h2 hr hxx rfl
    · have hp := pw_lt hf hi da
      have hpr := fprd_lt hf hxa hp
      have hle := sumN_le27 (g := fun x => sumN (fun y => ind (Nat.beq (fsum f (fprd f xa (pw f x da)) (fprd f ya (pw f y ea))) za)) (fQ f)) (M := 27) (n := i) hIle (by omega)
      rw [sumN_s] at ih
      generalize sumN (fun x => sumN (fun y => ind (Nat.beq (fsum f (fprd f xa (pw f x da)) (fprd f ya (pw f y ea))) za)) (fQ f)) i = A at ih hle ⊢
      have loopY : ∀ j : Nat, j ≤ fQ f → K 104 [some (mR 1000), some (mI xa), some (mI da), some (mI ya), some (mI ea), some (mI za), some (mI (A + sumN (fun y => ind (Nat.beq (fsum f (fprd f xa (pw f i da)) (fprd f ya (pw f y ea))) za)) j : Nat)), some (mI i), some (mI (fprd f xa (pw f i da) : Nat)), some (mI j)] [] (hR w (sI s 1 0)) 0 0 := by
        refine mm_for (fQ f) ?_ (fun j hj ihj => ?_)
        · refine hK [78, 104] _ _ _ _ _ _ ?_
          refine And.intro (fun _ => ?_) (fun q => absurd q (by omega))
          refine And.intro (rng_of (by omega) (by omega)) ?_
          exact ih _ _
        · have hle2 := sumN_le27 (g := fun y => ind (Nat.beq (fsum f (fprd f xa (pw f i da)) (fprd f ya (pw f y ea))) za)) (M := 1) (n := j) (fun _ => ind_le _) (by omega)
          have hp2 := pw_lt hf hj ea
          have hpr2 := fprd_lt hf hya hp2
          rw [sumN_s] at ihj
          generalize sumN (fun y => ind (Nat.beq (fsum f (fprd f xa (pw f i da)) (fprd f ya (pw f y ea))) za)) j = B at ihj hle2 ⊢
          refine hK [78, 104] _ _ _ _ _ _ ?_
          refine And.intro (fun q => absurd q (by omega)) (fun _ => ?_)
          refine ⟨w, sI s 1 0, f, j, ea, rfl, rfl, hT, hj, by omega, ?_⟩
          refine ⟨w, sI s 1 0, ya, (pw f j ea : Nat), rfl, rfl, ⟨by omega, by omega, by omega, by omega⟩, ?_⟩
          rw [hT.2.2.2.2.2 _ _ hya hp2]
          refine ⟨w, sI s 1 0, (fprd f xa (pw f i da) : Nat), (fprd f ya (pw f j ea) : Nat), rfl, rfl, ⟨by omega, by omega, by omega, by omega⟩, ?_⟩
          rw [hT.2.2.2.2.1 _ _ hpr hpr2]
          refine And.intro (fun q => ?_) (fun q => ?_)
          · rw [show ind (Nat.beq (fsum f (fprd f xa (pw f i da)) (fprd f ya (pw f j ea))) za) = 0 by rw [bfalse (by omega)]; rfl] at ihj
            refine And.intro (rng_of (by omega) (by omega)) ?_
            refine And.intro (rng_of (by omega) (by omega)) ?_
            conv => whnf
            rw [Int.add_zero]
            exact ihj
          · rw [show ind (Nat.beq (fsum f (fprd f xa (pw f i da)) (fprd f ya (pw f j ea))) za) = 1 by rw [show fsum f (fprd f xa (pw f i da)) (fprd f ya (pw f j ea)) = za by omega, Nat.beq_refl]; rfl] at ihj
            refine And.intro (rng_of (by omega) (by omega)) ?_
            refine And.intro (rng_of (by omega) (by omega)) ?_
            exact ihj
      refine hK [104] _ _ _ _ _ _ ?_
      refine And.intro (fun q => absurd q (by omega)) (fun _ => ?_)
      refine ⟨w, sI s 1 0, f, i, da, rfl, rfl, hT, hi, by omega, ?_⟩
      refine ⟨w, sI s 1 0, xa, (pw f i da : Nat), rfl, rfl, ⟨by omega, by omega, by omega, by omega⟩, ?_⟩
      rw [hT.2.2.2.2.2 _ _ hxa hp]
      exact loopY 0 (by omega)
  refine And.intro (fun _ => ?_) (fun q => absurd q (by omega))
  exact loopX 0 (by omega) none none
theorem m_X10_solutions (l : Launch) : mm_Met l yX10_solutions cX10_solutions 10 (some .int) 2 0 0 T_X10_solutions := mm_met (E := e_X10_solutions) (cd := kX10_solutions) s_X10_solutions (by decide) kX10_solutions_ok (by decide +kernel) (by decide +kernel) (Or.inr (Or.inl ⟨rfl, rfl⟩)) rfl (mm_eok_X10 _) (mm_calls_cons (mm_cbv wi_X10_isElement (tb7 (i := 143) rfl rfl) (m_X10_isElement l) (by decide) (by decide) rfl) (mm_calls_cons (mm_cbs wi_X10_isIn (tb6 (i := 177) rfl rfl) (m_X10_isIn l) (by decide) (by decide) rfl) (mm_calls_cons (mm_cbv wi_X10_raise (tb5 (i := 221) rfl rfl) (m_X10_raise l) (by decide) (by decide) rfl) (mm_calls_cons (mm_cbv wi_X10_productOf (tb5 (i := 213) rfl rfl) (m_X10_productOf l) (by decide) (by decide) rfl) (mm_calls_cons (mm_cbv wi_X10_sumOf (tb5 (i := 205) rfl rfl) (m_X10_sumOf l) (by decide) (by decide) rfl) (mm_calls_nil))))))
theorem RR_scr {a : AS} {s : RS} {k : Nat} {v : Int → Int} (h : RR a s) (hk : mm_mem k [41, 42, 43, 44, 45, 46, 49, 50] = true) : RR a (sA s k v) :=
  RR_fr (I := []) (A := [41, 42, 43, 44, 45, 46, 49, 50]) (L := []) h (FR_A (FR_rf s) hk) rfl rfl rfl (fun _ _ _ _ => rfl)
def T_X10_points : Tr := fun av h N _ => ∃ (w : FW) (s : RS) (a : AS) (d e g z : Int), av = [mR 1000, mI d, mI e, mI g, mI z] ∧ h = hR w s ∧ RR a s ∧ mm_rng d ∧ mm_rng e ∧ mm_rng g ∧ mm_rng z ∧ RP w a (xPoints (aF a) d e g z) N
abbrev e_X10_points : NE := (ftX10, [(387, (2, 0, 0, false, (0, 10), T_X10_isElement)), (162, (3, 0, 0, false, (1, 0), T_X10_isIn)), (434, (2, 0, 0, false, (0, 10), T_X10_layPowers)), (159, (3, 0, 0, false, (0, 10), T_X10_raise)), (139, (3, 0, 0, false, (0, 10), T_X10_sumOf))], ltX10, [], [], false, 1, (0, 0), [], [], [], false)
set_option maxHeartbeats 8000000 in
theorem s_X10_points : mm_Spec e_X10_points kX10_points 11 T_X10_points := by
  rintro N X K av h hK ⟨w, s, a, d, e, g, z, rfl, rfl, hr, hd, he, hg, hz, h2⟩
  have hT0 := hr.2.1.1
  have hq0 := hT0.2.2.2.1
  obtain ⟨f, hf0⟩ : ∃ f, f = aF a := ⟨_, rfl⟩
  have hf : f < 15 := by rw [hf0]; exact hr.1.1
  rw [← hf0] at hT0 hq0 h2
  obtain ⟨b1, b2, b3, b4, b5, b6, b7, b8, b9, b10, b11, b12⟩ := fbase hf
  refine ⟨rfl, hK [78] _ _ _ _ _ _ ?_⟩
  refine ⟨w, s, z, fQ f, rfl, rfl, hz, hq0, by omega, ?_⟩
  refine And.intro (fun q3 => ?_) (fun q3 => ?_)
  rotate_left
  · refine And.intro (fun q => absurd q (by omega)) (fun _ => ?_)
    exact RP_at (s := sI s 1 1) h2 hr (by unfold xPoints; rw [if_neg (bi_c0 q3)]) rfl rfl
  have q3 := bi_c1 q3
  have h5 : ¬ (ok30 d ∧ ok30 e ∧ ok30 g) → N (some (mI 0)) (hR w (sI s 1 2)) := fun q => RP_at (s := sI s 1 2) h2 hr (by unfold xPoints; rw [if_pos q3, if_neg q]) rfl rfl
  refine ⟨_, _, _, rfl, ?_⟩
  rw [l_1, l_of hd, lc30]
  refine And.intro (fun q4 => ?_) (fun q4 => ?_)
  · refine And.intro (fun q => absurd q (by omega)) (fun _ => ?_)
    exact h5 (fun z => bi_c0 q4 z.1)
  have q4 := bi_c1 q4
  refine ⟨_, _, _, rfl, ?_⟩
  rw [l_1, l_of he, lc30]
  refine And.intro (fun q5 => ?_) (fun q5 => ?_)
  · refine And.intro (fun q => absurd q (by omega)) (fun _ => ?_)
    exact h5 (fun z => bi_c0 q5 z.2.1)
  have q5 := bi_c1 q5
  refine ⟨_, _, _, rfl, ?_⟩
  rw [l_1, l_of hg, lc30]
  refine And.intro (fun q6 => ?_) (fun q6 => ?_)
  rotate_left
  · refine And.intro (fun q => absurd q (by omega)) (fun _ => ?_)
    exact h5 (fun z => bi_c0 q6 z.2.2)
  have q6 := bi_c1 q6
  obtain ⟨za, rfl⟩ := Int.eq_ofNat_of_zero_le q3.1
  obtain ⟨da, rfl⟩ := Int.eq_ofNat_of_zero_le (show 0 ≤ d by omega)
  obtain ⟨ea, rfl⟩ := Int.eq_ofNat_of_zero_le (show 0 ≤ e by omega)
  obtain ⟨ga, rfl⟩ := Int.eq_ofNat_of_zero_le (show 0 ≤ g by omega)
  have hxx : xPoints f da ea ga za = (0, (ptsN f da ea ga za : Int)) := by unfold xPoints; rw [if_pos q3, if_pos ⟨q4, q5, q6⟩]; rfl
  refine And.intro (fun _ => ?_) (fun q => absurd q (by omega))
  refine ⟨w, sI s 1 0, f, ga, rfl, rfl, hT0, by omega, fun v hv => ?_⟩
  have hT : RT f (sA (sI s 1 0) 43 v) := hT0
  have hr2 : RR a (sA (sI s 1 0) 43 v) := RR_scr (s := sI s 1 0) hr rfl
  have h43 : ∀ x : Nat, x < fQ f → (sA (sI s 1 0) 43 v).2.1 43 (x : Int) = (pw f x ga : Nat) := hv
  have hc0 : (sA (sI s 1 0) 43 v).1 1 = ((0 : Nat) : Int) := rfl
  generalize sA (sI s 1 0) 43 v = s1 at hT hr2 h43 hc0 ⊢
  have hq := hT.2.2.2.1
  have l3 : ∀ x y n, n ≤ 27 → sumN (fun z => ind (Nat.beq (fsum f (fsum f (pw f x da) (pw f y ea)) (pw f z ga)) za)) n ≤ 27 := fun x y n hn => by
    have := sumN_le27 (g := fun z => ind (Nat.beq (fsum f (fsum f (pw f x da) (pw f y ea)) (pw f z ga)) za)) (M := 1) (n := n) (fun _ => ind_le _) hn
    omega
  have l2 : ∀ x n, n ≤ 27 → sumN (fun y => sumN (fun z => ind (Nat.beq (fsum f (fsum f (pw f x da) (pw f y ea)) (pw f z ga)) za)) (fQ f)) n ≤ 27 * 27 := fun x n hn => sumN_le27 (fun y => l3 x y _ b1) hn
  have l1 : ∀ n, n ≤ 27 → sumN (fun x => sumN (fun y => sumN (fun z => ind (Nat.beq (fsum f (fsum f (pw f x da) (pw f y ea)) (pw f z ga)) za)) (fQ f)) (fQ f)) n ≤ 27 * (27 * 27) := fun n hn => sumN_le27 (fun x => l2 x _ b1) hn
  have loopX : ∀ i : Nat, i ≤ fQ f → ∀ o7 o8 o9 o10 : Option MV, K 78 [some (mR 1000), some (mI da), some (mI ea), some (mI ga), some (mI za), some (mI (sumN (fun x => sumN (fun y => sumN (fun z => ind (Nat.beq (fsum f (fsum f (pw f x da) (pw f y ea)) (pw f z ga)) za)) (fQ f)) (fQ f)) i : Nat)), some (mI i), o7, o8, o9, o10] [] (hR w s1) 0 0 := by
    refine mm_for (fQ f) (fun o7 o8 o9 o10 => ?_) (fun i hi ih o7 o8 o9 o10 => ?_)
    · refine hK [78] _ _ _ _ _ _ ?_
      refine And.intro (fun _ => ?_) (fun q => absurd q (by omega))
      exact RP_at h2 hr2 hxx hc0 rfl
    · have hp := pw_lt hf hi da
      have hle := l1 i (by omega)
      rw [sumN_s] at ih
      generalize sumN (fun x => sumN (fun y => sumN (fun z => ind (Nat.beq (fsum f (fsum f (pw f x da) (pw f y ea)) (pw f z ga)) za)) (fQ f)) (fQ f)) i = A at ih hle ⊢
      have loopY : ∀ j : Nat, j ≤ fQ f → ∀ o9 o10 : Option MV, K 99 [some (mR 1000), some (mI da), some (mI ea), some (mI ga), some (mI za), some (mI (A + sumN (fun y => sumN (fun z => ind (Nat.beq (fsum f (fsum f (pw f i da) (pw f y ea)) (pw f z ga)) za)) (fQ f)) j : Nat)), some (mI i), some (mI (pw f i da : Nat)), some (mI j), o9, o10] [] (hR w s1) 0 0 := by
        refine mm_for (fQ f) (fun o9 o10 => ?_) (fun j hj ihj o9 o10 => ?_)
        · refine hK [78, 99] _ _ _ _ _ _ ?_
          refine And.intro (fun _ => ?_) (fun q => absurd q (by omega))
          refine And.intro (rng_of (by omega) (by omega)) ?_
          exact ih _ _ _ _
        · have hp2 := pw_lt hf hj ea
          have hs2 := fsum_lt hf hp hp2
          have hle2 := l2 i j (by omega)
          rw [sumN_s] at ihj
          generalize sumN (fun y => sumN (fun z => ind (Nat.beq (fsum f (fsum f (pw f i da) (pw f y ea)) (pw f z ga)) za)) (fQ f)) j = B at ihj hle2 ⊢
          have loopZ : ∀ k : Nat, k ≤ fQ f → K 126 [some (mR 1000), some (mI da), some (mI ea), some (mI ga), some (mI za), some (mI (A + (B + sumN (fun z => ind (Nat.beq (fsum f (fsum f (pw f i da) (pw f j ea)) (pw f z ga)) za)) k) : Nat)), some (mI i), some (mI (pw f i da : Nat)), some (mI j), some (mI (fsum f (pw f i da) (pw f j ea) : Nat)), some (mI k)] [] (hR w s1) 0 0 := by
            refine mm_for (fQ f) ?_ (fun k hk ihk => ?_)
            · refine hK [99, 126] _ _ _ _ _ _ ?_
              refine And.intro (fun _ => ?_) (fun q => absurd q (by omega))
              refine And.intro (rng_of (by omega) (by omega)) ?_
              exact ihj _ _
            · have hp3 := pw_lt hf hk ga
              have hle3 := l3 i j k (by omega)
              have h43k := h43 k hk
              rw [sumN_s] at ihk
              generalize sumN (fun z => ind (Nat.beq (fsum f (fsum f (pw f i da) (pw f j ea)) (pw f z ga)) za)) k = C at ihk hle3 ⊢
              refine hK [99, 126] _ _ _ _ _ _ ?_
              refine And.intro (fun q => absurd q (by omega)) (fun _ => ?_)
              refine And.intro (by omega) ?_
              refine ⟨w, s1, (fsum f (pw f i da) (pw f j ea) : Nat), (pw f k ga : Nat), by show [mR 1000, mI ((fsum f (pw f i da) (pw f j ea) : Nat) : Int), mI (s1.2.1 43 (k : Int))] = _; rw [h43k], rfl, ⟨by omega, by omega, by omega, by omega⟩, ?_⟩
              rw [hT.2.2.2.2.1 _ _ hs2 hp3]
              refine And.intro (fun q => ?_) (fun q => ?_)
              · rw [show ind (Nat.beq (fsum f (fsum f (pw f i da) (pw f j ea)) (pw f k ga)) za) = 0 by rw [bfalse (by omega)]; rfl] at ihk
                refine And.intro (rng_of (by omega) (by omega)) ?_
                refine And.intro (rng_of (by omega) (by omega)) ?_
                conv => whnf
                rw [Int.add_zero]
                exact ihk
              · rw [show ind (Nat.beq (fsum f (fsum f (pw f i da) (pw f j ea)) (pw f k ga)) za) = 1 by rw [show fsum f (fsum f (pw f i da) (pw f j ea)) (pw f k ga) = za by omega, Nat.beq_refl]; rfl] at ihk
                refine And.intro (rng_of (by omega) (by omega)) ?_
                refine And.intro (rng_of (by omega) (by omega)) ?_
                exact ihk
          refine hK [99, 126] _ _ _ _ _ _ ?_
          refine And.intro (fun q => absurd q (by omega)) (fun _ => ?_)
          refine ⟨w, s1, f, j, ea, rfl, rfl, hT, hj, by omega, ?_⟩
          refine ⟨w, s1, (pw f i da : Nat), (pw f j ea : Nat), rfl, rfl, ⟨by omega, by omega, by omega, by omega⟩, ?_⟩
          rw [hT.2.2.2.2.1 _ _ hp hp2]
          exact loopZ 0 (by omega)
      refine hK [78, 99] _ _ _ _ _ _ ?_
      refine And.intro (fun q => absurd q (by omega)) (fun _ => ?_)
      refine ⟨w, s1, f, i, da, rfl, rfl, hT, hi, by omega, ?_⟩
      exact loopY 0 (by omega) _ _
  exact loopX 0 (by omega) _ _ _ _
theorem m_X10_points (l : Launch) : mm_Met l yX10_points cX10_points 11 (some .int) 3 0 0 T_X10_points := mm_met (E := e_X10_points) (cd := kX10_points) s_X10_points (by decide) kX10_points_ok (by decide +kernel) (by decide +kernel) (Or.inr (Or.inl ⟨rfl, rfl⟩)) rfl (mm_eok_X10 _) (mm_calls_cons (mm_cbv wi_X10_isElement (tb7 (i := 143) rfl rfl) (m_X10_isElement l) (by decide) (by decide) rfl) (mm_calls_cons (mm_cbs wi_X10_isIn (tb6 (i := 177) rfl rfl) (m_X10_isIn l) (by decide) (by decide) rfl) (mm_calls_cons (mm_cbv wi_X10_layPowers (tb8 (i := 5) rfl rfl) (m_X10_layPowers l) (by decide) (by decide) rfl) (mm_calls_cons (mm_cbv wi_X10_raise (tb5 (i := 221) rfl rfl) (m_X10_raise l) (by decide) (by decide) rfl) (mm_calls_cons (mm_cbv wi_X10_sumOf (tb5 (i := 205) rfl rfl) (m_X10_sumOf l) (by decide) (by decide) rfl) (mm_calls_nil))))))
