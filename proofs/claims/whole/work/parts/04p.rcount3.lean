/-! the reference: rows of elements, sets, classes -/
theorem sumN_leg {a b : Nat → Nat} : ∀ n, (∀ i, i < n → a i ≤ b i) → sumN a n ≤ sumN b n
  | 0, _ => Nat.le_refl _
  | n + 1, h => by
    have := sumN_leg n (fun i hi => h i (by omega))
    have := h n (by omega)
    show sumN a n + a n ≤ sumN b n + b n
    omega
theorem sumN_congr {a b : Nat → Nat} : ∀ n, (∀ i, i < n → a i = b i) → sumN a n = sumN b n
  | 0, _ => rfl
  | n + 1, h => by
    show sumN a n + a n = sumN b n + b n
    rw [sumN_congr n (fun i hi => h i (by omega)), h n (by omega)]
theorem sumN_c (c : Nat) : ∀ n, sumN (fun _ => c) n = n * c
  | 0 => by simp [sumN]
  | n + 1 => by
    show sumN (fun _ => c) n + c = _
    rw [sumN_c c n, Nat.add_mul]
    omega
theorem sumN_mul {q : Nat} {g : Nat → Nat} : ∀ n, sumN (fun x => q * g x) n = q * sumN g n
  | 0 => by simp [sumN]
  | n + 1 => by
    show sumN (fun x => q * g x) n + q * g n = q * (sumN g n + g n)
    rw [sumN_mul n, Nat.mul_add]
theorem sumN_mono {g : Nat → Nat} {m : Nat} : ∀ n, m ≤ n → sumN g m ≤ sumN g n
  | 0, h => by
    have : m = 0 := by omega
    rw [this]
    exact Nat.le_refl _
  | n + 1, h => by
    by_cases q : m = n + 1
    · rw [q]; exact Nat.le_refl _
    · have := sumN_mono (g := g) n (show m ≤ n by omega)
      show sumN g m ≤ sumN g n + g n
      omega
theorem sumN_add {a b : Nat → Nat} : ∀ n, sumN (fun i => a i + b i) n = sumN a n + sumN b n
  | 0 => rfl
  | n + 1 => by
    show sumN (fun i => a i + b i) n + (a n + b n) = (sumN a n + a n) + (sumN b n + b n)
    rw [sumN_add n]
    omega
theorem sumN_swap {g : Nat → Nat → Nat} (m : Nat) : ∀ n, sumN (fun i => sumN (fun j => g i j) m) n = sumN (fun j => sumN (fun i => g i j) n) m
  | 0 => by
    have h : sumN (fun j => sumN (fun i => g i j) 0) m = sumN (fun _ => 0) m := sumN_congr m (fun _ _ => rfl)
    show 0 = _
    rw [h, sumN_c]
    omega
  | n + 1 => by
    show sumN (fun i => sumN (fun j => g i j) m) n + sumN (fun j => g n j) m = sumN (fun j => sumN (fun i => g i j) n + g n j) m
    rw [sumN_add, sumN_swap m n]
theorem sumN_one {c t : Nat} : ∀ n, sumN (fun v => match Nat.beq t v with | true => c | false => 0) n = if t < n then c else 0
  | 0 => by simp [sumN]
  | n + 1 => by
    show sumN (fun v => match Nat.beq t v with | true => c | false => 0) n + (match Nat.beq t n with | true => c | false => 0) = _
    rw [sumN_one n]
    by_cases q : t = n
    · rw [if_neg (by omega), if_pos (by omega), q, Nat.beq_refl]
      show 0 + c = c
      omega
    · rw [bfalse q]
      by_cases q2 : t < n
      · rw [if_pos q2, if_pos (by omega)]
        rfl
      · rw [if_neg q2, if_neg (by omega)]
        rfl
def jn (f d : Nat) (g : Nat → Nat) (x y v : Nat) : Nat := match Nat.beq (fsum f x (pw f y d)) v with
  | true => g x
  | false => 0
theorem jn_le (f d : Nat) (g : Nat → Nat) (x y v : Nat) : jn f d g x y v ≤ g x := by unfold jn; split <;> omega
def jnS (f d : Nat) (g : Nat → Nat) (v : Nat) : Nat := sumN (fun x => sumN (fun y => jn f d g x y v) (fQ f)) (fQ f)
theorem jn_tot {f d : Nat} {g : Nat → Nat} (hf : f < 15) : sumN (jnS f d g) (fQ f) = fQ f * sumN g (fQ f) := by
  unfold jnS
  rw [sumN_swap (g := fun v x => sumN (fun y => jn f d g x y v) (fQ f)) (fQ f) (fQ f), ← sumN_mul]
  refine sumN_congr _ (fun x hx => ?_)
  rw [sumN_swap (g := fun v y => jn f d g x y v) (fQ f) (fQ f), ← sumN_c]
  refine sumN_congr _ (fun y hy => ?_)
  show sumN (fun v => match Nat.beq (fsum f x (pw f y d)) v with | true => g x | false => 0) (fQ f) = g x
  rw [sumN_one, if_pos (fsum_lt hf hx (pw_lt hf hy d))]
theorem wys_s (f d n : Nat) : wysN f d (n + 1) = jnS f d (wysN f d n) := rfl
theorem wys_tot {f d : Nat} (hf : f < 15) : ∀ n, sumN (wysN f d n) (fQ f) = fQ f ^ n
  | 0 => by
    have hb := fbase hf
    have e : sumN (wysN f d 0) (fQ f) = sumN (fun v => match Nat.beq 0 v with | true => 1 | false => 0) (fQ f) := sumN_congr _ (fun v _ => by
      show ind (Nat.beq v 0) = _
      cases v with
      | zero => rfl
      | succ v => rfl)
    rw [e, sumN_one, if_pos (by omega)]
    rfl
  | n + 1 => by rw [wys_s, jn_tot hf, wys_tot hf n, Nat.pow_succ, Nat.mul_comm]
def T_X10_joins : Tr := fun av h N _ => ∃ (w : FW) (s : RS) (f d B : Nat) (g : Nat → Nat), av = [mR 1000, mI d] ∧ h = hR w s ∧ RT f s ∧ d < 1000 ∧ (∀ x : Nat, x < fQ f → s.2.1 41 (x : Int) = (g x : Nat)) ∧ sumN g (fQ f) ≤ B ∧ 27 * B ≤ 2000000000 ∧ ∀ s' : RS, FR [] [41, 42, 43] [] s s' → (∀ x : Nat, x < fQ f → s'.2.1 41 (x : Int) = (jnS f d g x : Nat)) → N none (hR w s')
abbrev e_X10_joins : NE := (ftX10, [(434, (2, 0, 0, false, (0, 10), T_X10_layPowers)), (139, (3, 0, 0, false, (0, 10), T_X10_sumOf))], ltX10, [], [], false, 0, (0, 0), [], [], [], false)
set_option maxHeartbeats 8000000 in
theorem s_X10_joins : mm_Spec e_X10_joins kX10_joins 4 T_X10_joins := by
  rintro N X K av h hK ⟨w, s, f, d, B, g, rfl, rfl, hT0, hd, hg, hB, hB2, h2⟩
  have hf := hT0.1
  obtain ⟨b1, b2, b3, b4, b5, b6, b7, b8, b9, b10, b11, b12⟩ := fbase hf
  have hTot : fQ f * sumN g (fQ f) ≤ 2000000000 := Nat.le_trans (Nat.mul_le_mul b1 hB) hB2
  have loopC : ∀ i : Nat, i ≤ fQ f → ∀ (s' : RS) (o3 : Option MV), FR [] [41, 42, 43] [] s s' → (∀ x : Nat, x < fQ f → s'.2.1 42 (x : Int) = (jnS f d g x : Nat)) → (∀ x : Nat, x < i → s'.2.1 41 (x : Int) = (jnS f d g x : Nat)) → K 87 [some (mR 1000), some (mI d), some (mI i), o3] [] (hR w s') 0 0 := by
    refine mm_for (fQ f) (fun s' o3 hF h42 h41 => ?_) (fun i hi ih s' o3 hF h42 h41 => ?_)
    · have hq : s'.1 4 = (fQ f : Nat) := (hF.1 4 rfl).trans hT0.2.2.2.1
      refine hK [87] _ _ _ _ _ _ ?_
      refine And.intro (fun _ => ?_) (fun q => absurd q (by omega))
      exact h2 s' hF h41
    · have hq : s'.1 4 = (fQ f : Nat) := (hF.1 4 rfl).trans hT0.2.2.2.1
      refine hK [87] _ _ _ _ _ _ ?_
      refine And.intro (fun q => absurd q (by omega)) (fun _ => ?_)
      refine And.intro (by omega) ?_
      refine And.intro (by omega) ?_
      refine And.intro (rng_of (by omega) (by omega)) ?_
      refine ih (sA s' 41 (mm_upd (s'.2.1 41) (i : Int) (s'.2.1 42 (i : Int)))) o3 (FR_A hF rfl) h42 (fun x hx => ?_)
      show mm_upd (s'.2.1 41) (i : Int) (s'.2.1 42 (i : Int)) (x : Int) = _
      unfold mm_upd
      by_cases q : x = i
      · rw [if_pos (by omega), h42 i hi, q]
      · rw [if_neg (by omega)]; exact h41 x (by omega)
  have loopX : ∀ i : Nat, i ≤ fQ f → ∀ (s' : RS) (o3 : Option MV), FR [] [41, 42, 43] [] s s' → (∀ x : Nat, x < fQ f → s'.2.1 41 (x : Int) = (g x : Nat)) → (∀ x : Nat, x < fQ f → s'.2.1 43 (x : Int) = (pw f x d : Nat)) → (∀ v : Nat, v < fQ f → s'.2.1 42 (v : Int) = (sumN (fun x => sumN (fun y => jn f d g x y v) (fQ f)) i : Nat)) → K 30 [some (mR 1000), some (mI d), some (mI i), o3] [] (hR w s') 0 0 := by
    refine mm_for (fQ f) (fun s' o3 hF h41 h43 h42 => ?_) (fun i hi ih s' o3 hF h41 h43 h42 => ?_)
    · have hq : s'.1 4 = (fQ f : Nat) := (hF.1 4 rfl).trans hT0.2.2.2.1
      refine hK [30, 87] _ _ _ _ _ _ ?_
      refine And.intro (fun _ => ?_) (fun q => absurd q (by omega))
      exact loopC 0 (by omega) s' _ hF h42 (fun x hx => by omega)
    · have loopY : ∀ j : Nat, j ≤ fQ f → ∀ s' : RS, FR [] [41, 42, 43] [] s s' → (∀ x : Nat, x < fQ f → s'.2.1 41 (x : Int) = (g x : Nat)) → (∀ x : Nat, x < fQ f → s'.2.1 43 (x : Int) = (pw f x d : Nat)) → (∀ v : Nat, v < fQ f → s'.2.1 42 (v : Int) = (sumN (fun x => sumN (fun y => jn f d g x y v) (fQ f)) i + sumN (fun y => jn f d g i y v) j : Nat)) → K 40 [some (mR 1000), some (mI d), some (mI i), some (mI j)] [] (hR w s') 0 0 := by
        refine mm_for (fQ f) (fun s' hF h41 h43 h42 => ?_) (fun j hj ihj s' hF h41 h43 h42 => ?_)
        · have hq : s'.1 4 = (fQ f : Nat) := (hF.1 4 rfl).trans hT0.2.2.2.1
          refine hK [30, 40] _ _ _ _ _ _ ?_
          refine And.intro (fun _ => ?_) (fun q => absurd q (by omega))
          refine And.intro (rng_of (by omega) (by omega)) ?_
          exact ih s' _ hF h41 h43 h42
        · have hT := RT_fr hT0 hF rfl rfl rfl rfl rfl
          have hq := hT.2.2.2.1
          have hp := pw_lt hf hj d
          have hs := fsum_lt hf hi hp
          obtain ⟨v, hv⟩ : ∃ v, v = fsum f i (pw f j d) := ⟨_, rfl⟩
          have hbig : sumN (fun x => sumN (fun y => jn f d g x y v) (fQ f)) i + sumN (fun y => jn f d g i y v) j + g i ≤ 2000000000 := by
            have a1 : sumN (fun x => sumN (fun y => jn f d g x y v) (fQ f)) i ≤ sumN (fun x => fQ f * g x) i := sumN_leg _ (fun x _ => by
              rw [← sumN_c]
              exact sumN_leg _ (fun y _ => jn_le f d g x y v))
            have a2 : sumN (fun y => jn f d g i y v) j ≤ j * g i := by
              rw [← sumN_c]
              exact sumN_leg _ (fun y _ => jn_le f d g i y v)
            have a3 : (j + 1) * g i ≤ fQ f * g i := Nat.mul_le_mul_right _ hj
            rw [Nat.add_mul] at a3
            have a4 : sumN (fun x => fQ f * g x) (i + 1) ≤ sumN (fun x => fQ f * g x) (fQ f) := sumN_mono _ hi
            rw [sumN_mul, sumN_mul] at a4
            rw [sumN_mul] at a1
            have a5 : fQ f * sumN g (i + 1) = fQ f * sumN g i + fQ f * g i := by rw [sumN_s, Nat.mul_add]
            omega
          refine hK [30, 40] _ _ _ _ _ _ ?_
          refine And.intro (fun q => absurd q (by omega)) (fun _ => ?_)
          refine And.intro (by omega) ?_
          refine ⟨w, s', i, (pw f j d : Nat), by show [mR 1000, mI (i : Int), mI (s'.2.1 43 (j : Int))] = _; rw [h43 j hj], rfl, ⟨by omega, by omega, by omega, by omega⟩, ?_⟩
          rw [hT.2.2.2.2.1 _ _ hi hp, ← hv]
          rw [← hv] at hs
          refine And.intro (by omega) ?_
          refine And.intro (by omega) ?_
          conv => whnf
          rw [h42 v hs, h41 i hi]
          refine And.intro (rng_of (by omega) (by omega)) ?_
          refine And.intro (by omega) ?_
          refine And.intro (rng_of (by omega) (by omega)) ?_
          refine ihj (sA s' 42 (mm_upd (s'.2.1 42) (v : Int) ((sumN (fun x => sumN (fun y => jn f d g x y v) (fQ f)) i + sumN (fun y => jn f d g i y v) j : Nat) + (g i : Nat) : Int))) (FR_A hF rfl) h41 h43 (fun u hu => ?_)
          show mm_upd (s'.2.1 42) (v : Int) ((sumN (fun x => sumN (fun y => jn f d g x y v) (fQ f)) i + sumN (fun y => jn f d g i y v) j : Nat) + (g i : Nat) : Int) (u : Int) = _
          unfold mm_upd
          rw [sumN_s]
          by_cases q : u = v
          · subst q
            rw [if_pos rfl, show jn f d g i j u = g i by unfold jn; rw [hv, Nat.beq_refl]]
            omega
          · rw [if_neg (by omega), h42 u hu, show jn f d g i j u = 0 by unfold jn; rw [← hv, bfalse (fun e => q e.symm)]]
            omega
      have hq : s'.1 4 = (fQ f : Nat) := (hF.1 4 rfl).trans hT0.2.2.2.1
      refine hK [30, 40] _ _ _ _ _ _ ?_
      refine And.intro (fun q => absurd q (by omega)) (fun _ => ?_)
      exact loopY 0 (by omega) s' hF h41 h43 h42
  have loopZ : ∀ i : Nat, i ≤ fQ f → ∀ s' : RS, FR [] [41, 42, 43] [] s s' → (∀ x : Nat, x < fQ f → s'.2.1 41 (x : Int) = (g x : Nat)) → (∀ x : Nat, x < fQ f → s'.2.1 43 (x : Int) = (pw f x d : Nat)) → (∀ v : Nat, v < i → s'.2.1 42 (v : Int) = 0) → K 7 [some (mR 1000), some (mI d), some (mI i), none] [] (hR w s') 0 0 := by
    refine mm_for (fQ f) (fun s' hF h41 h43 h42 => ?_) (fun i hi ih s' hF h41 h43 h42 => ?_)
    · have hq : s'.1 4 = (fQ f : Nat) := (hF.1 4 rfl).trans hT0.2.2.2.1
      refine hK [7, 30] _ _ _ _ _ _ ?_
      refine And.intro (fun _ => ?_) (fun q => absurd q (by omega))
      exact loopX 0 (by omega) s' _ hF h41 h43 (fun v hv => h42 v hv)
    · have hq : s'.1 4 = (fQ f : Nat) := (hF.1 4 rfl).trans hT0.2.2.2.1
      refine hK [7, 30] _ _ _ _ _ _ ?_
      refine And.intro (fun q => absurd q (by omega)) (fun _ => ?_)
      refine And.intro (by omega) ?_
      refine And.intro (rng_of (by omega) (by omega)) ?_
      refine ih (sA s' 42 (mm_upd (s'.2.1 42) (i : Int) 0)) (FR_A hF rfl) h41 h43 (fun v hv => ?_)
      show mm_upd (s'.2.1 42) (i : Int) 0 (v : Int) = 0
      unfold mm_upd
      split
      · rfl
      · exact h42 v (by omega)
  refine ⟨rfl, hK [7] _ _ _ _ _ _ ?_⟩
  refine ⟨w, s, f, d, rfl, rfl, hT0, hd, fun v hv => ?_⟩
  exact loopZ 0 (by omega) (sA s 43 v) (FR_A (FR_rf s) rfl) hg hv (fun u hu => by omega)
theorem m_X10_joins (l : Launch) : mm_Met l yX10_joins cX10_joins 4 none 3 0 0 T_X10_joins := mm_met (E := e_X10_joins) (cd := kX10_joins) s_X10_joins (by decide) kX10_joins_ok (by decide +kernel) (by decide +kernel) (Or.inl ⟨rfl, rfl⟩) rfl (mm_eok_X10 _) (mm_calls_cons (mm_cbv wi_X10_layPowers (tb8 (i := 5) rfl rfl) (m_X10_layPowers l) (by decide) (by decide) rfl) (mm_calls_cons (mm_cbv wi_X10_sumOf (tb5 (i := 205) rfl rfl) (m_X10_sumOf l) (by decide) (by decide) rfl) (mm_calls_nil)))
def T_X10_rows : Tr := fun av h N _ => ∃ (w : FW) (s : RS) (a : AS) (n d z : Int), av = [mR 1000, mI n, mI d, mI z] ∧ h = hR w s ∧ RR a s ∧ mm_rng n ∧ mm_rng d ∧ mm_rng z ∧ RP w a (xRows (aF a) n d z) N
abbrev e_X10_rows : NE := (ftX10, [(387, (2, 0, 0, false, (0, 10), T_X10_isElement)), (162, (3, 0, 0, false, (1, 0), T_X10_isIn)), (439, (2, 0, 0, false, (0, 10), T_X10_joins))], ltX10, [], [], false, 1, (0, 0), [], [], [], false)
set_option maxHeartbeats 8000000 in
theorem s_X10_rows : mm_Spec e_X10_rows kX10_rows 5 T_X10_rows := by
  rintro N X K av h hK ⟨w, s, a, n, d, z, rfl, rfl, hr, hn, hd, hz, h2⟩
  have hT0 := hr.2.1.1
  have hq0 := hT0.2.2.2.1
  obtain ⟨f, hf0⟩ : ∃ f, f = aF a := ⟨_, rfl⟩
  have hf : f < 15 := by rw [hf0]; exact hr.1.1
  rw [← hf0] at hT0 hq0 h2
  obtain ⟨b1, b2, b3, b4, b5, b6, b7, b8, b9, b10, b11, b12⟩ := fbase hf
  refine ⟨rfl, hK [57] _ _ _ _ _ _ ?_⟩
  refine ⟨w, s, z, fQ f, rfl, rfl, hz, hq0, by omega, ?_⟩
  refine And.intro (fun q3 => ?_) (fun q3 => ?_)
  rotate_left
  · refine And.intro (fun q => absurd q (by omega)) (fun _ => ?_)
    exact RP_at (s := sI s 1 1) h2 hr (by unfold xRows; rw [if_neg (bi_c0 q3)]) rfl rfl
  have q3 := bi_c1 q3
  have h5 : ¬ ((1 ≤ n ∧ n ≤ 6) ∧ ok30 d) → N (some (mI 0)) (hR w (sI s 1 2)) := fun q => RP_at (s := sI s 1 2) h2 hr (by unfold xRows; rw [if_pos q3, if_neg q]) rfl rfl
  refine ⟨_, _, _, rfl, ?_⟩
  rw [l_1, l_of hn, lc6]
  refine And.intro (fun q4 => ?_) (fun q4 => ?_)
  · refine And.intro (fun q => absurd q (by omega)) (fun _ => ?_)
    exact h5 (fun z => bi_c0 q4 z.1)
  have q4 := bi_c1 q4
  refine ⟨_, _, _, rfl, ?_⟩
  rw [l_1, l_of hd, lc30]
  refine And.intro (fun q5 => ?_) (fun q5 => ?_)
  rotate_left
  · refine And.intro (fun q => absurd q (by omega)) (fun _ => ?_)
    exact h5 (fun z => bi_c0 q5 z.2)
  have q5 := bi_c1 q5
  obtain ⟨za, rfl⟩ := Int.eq_ofNat_of_zero_le q3.1
  obtain ⟨na, rfl⟩ := Int.eq_ofNat_of_zero_le (show 0 ≤ n by omega)
  obtain ⟨da, rfl⟩ := Int.eq_ofNat_of_zero_le (show 0 ≤ d by omega)
  have hxx : xRows f na da za = (0, (wysN f da na za : Int)) := by unfold xRows; rw [if_pos q3, if_pos ⟨q4, q5⟩]; rfl
  have loopJ : ∀ i : Nat, i ≤ na → ∀ s' : RS, FR [] [41, 42, 43] [] (sI s 1 0) s' → (∀ x : Nat, x < fQ f → s'.2.1 41 (x : Int) = (wysN f da i x : Nat)) → K 92 [some (mR 1000), some (mI na), some (mI da), some (mI za), some (mI i)] [] (hR w s') 0 0 := by
    refine mm_for na (fun s' hF h41 => ?_) (fun i hi ih s' hF h41 => ?_)
    · refine hK [92] _ _ _ _ _ _ ?_
      refine And.intro (fun _ => ?_) (fun q => absurd q (by omega))
      refine And.intro (by omega) ?_
      refine RP_at h2 (RR_fr (s := sI s 1 0) hr hF rfl rfl rfl (fun _ _ _ _ => by rw [hF.2.2 24 rfl])) hxx (hF.1 1 rfl) (h41 za (by omega))
    · have hpw : fQ f ^ i ≤ 27 ^ 5 := Nat.le_trans (Nat.pow_le_pow_left b1 i) (Nat.pow_le_pow_right (by omega) (by omega))
      refine hK [92] _ _ _ _ _ _ ?_
      refine And.intro (fun q => absurd q (by omega)) (fun _ => ?_)
      refine ⟨w, s', f, da, 27 ^ 5, wysN f da i, rfl, rfl, RT_fr (s := sI s 1 0) hT0 hF rfl rfl rfl rfl rfl, by omega, h41, by rw [wys_tot hf]; exact hpw, by decide, fun s2 hF2 h2b => ?_⟩
      refine And.intro (rng_of (by omega) (by omega)) ?_
      exact ih s2 (FR_tr hF hF2 rfl rfl rfl) h2b
  have loopI : ∀ i : Nat, i ≤ fQ f → ∀ s' : RS, FR [] [41, 42, 43] [] (sI s 1 0) s' → (∀ x : Nat, x < i → s'.2.1 41 (x : Int) = (wysN f da 0 x : Nat)) → K 57 [some (mR 1000), some (mI na), some (mI da), some (mI za), some (mI i)] [] (hR w s') 0 0 := by
    refine mm_for (fQ f) (fun s' hF h41 => ?_) (fun i hi ih s' hF h41 => ?_)
    · have hq : s'.1 4 = (fQ f : Nat) := (hF.1 4 rfl).trans hq0
      refine hK [57, 92] _ _ _ _ _ _ ?_
      refine And.intro (fun _ => ?_) (fun q => absurd q (by omega))
      exact loopJ 0 (by omega) s' hF h41
    · have hq : s'.1 4 = (fQ f : Nat) := (hF.1 4 rfl).trans hq0
      have hgo : ∀ c : Int, c = (wysN f da 0 i : Nat) → K 57 [some (mR 1000), some (mI na), some (mI da), some (mI za), some (mI ((i : Int) + 1))] [] (hR w (sA s' 41 (mm_upd (s'.2.1 41) (i : Int) c))) 0 0 := fun c hc => ih (sA s' 41 (mm_upd (s'.2.1 41) (i : Int) c)) (FR_A hF rfl) (fun x hx => by
        show mm_upd (s'.2.1 41) (i : Int) c (x : Int) = _
        unfold mm_upd
        by_cases q : x = i
        · rw [if_pos (by omega), hc, q]
        · rw [if_neg (by omega)]; exact h41 x (by omega))
      refine hK [57, 92] _ _ _ _ _ _ ?_
      refine And.intro (fun q => absurd q (by omega)) (fun _ => ?_)
      refine And.intro (fun q => ?_) (fun q => ?_)
      · refine And.intro (by omega) ?_
        refine And.intro (rng_of (by omega) (by omega)) ?_
        refine hgo 0 ?_
        show 0 = ((ind (Nat.beq i 0) : Nat) : Int)
        rw [bfalse (by omega)]
        rfl
      · refine And.intro (by omega) ?_
        refine And.intro (rng_of (by omega) (by omega)) ?_
        refine hgo 1 ?_
        rw [show i = 0 by omega]
        rfl
  refine And.intro (fun _ => ?_) (fun q => absurd q (by omega))
  exact loopI 0 (by omega) (sI s 1 0) (FR_rf _) (fun x hx => by omega)
theorem m_X10_rows (l : Launch) : mm_Met l yX10_rows cX10_rows 5 (some .int) 4 0 0 T_X10_rows := mm_met (E := e_X10_rows) (cd := kX10_rows) s_X10_rows (by decide) kX10_rows_ok (by decide +kernel) (by decide +kernel) (Or.inr (Or.inl ⟨rfl, rfl⟩)) rfl (mm_eok_X10 _) (mm_calls_cons (mm_cbv wi_X10_isElement (tb7 (i := 143) rfl rfl) (m_X10_isElement l) (by decide) (by decide) rfl) (mm_calls_cons (mm_cbs wi_X10_isIn (tb6 (i := 177) rfl rfl) (m_X10_isIn l) (by decide) (by decide) rfl) (mm_calls_cons (mm_cbv wi_X10_joins (tb8 (i := 14) rfl rfl) (m_X10_joins l) (by decide) (by decide) rfl) (mm_calls_nil))))
theorem RR_setW {a : AS} {s : RS} {W : Nat → Int} {v : Int → Int} (h : RR a s) (hW : ∀ x, x < 27 → -99 ≤ W x ∧ W x ≤ 99) (hv : ∀ x : Nat, x < fQ (aF a) → v (x : Int) = W x) : RR (aSetW a W) (sA s 26 v) := by
  obtain ⟨⟨a0, a1, a2, a3⟩, h1, h2, h3, h4, h5, h6⟩ := h
  exact ⟨⟨a0, a1, hW, a3⟩, h1, h2, h3, h4, hv, h6⟩
theorem cntB_s {b : Nat → Bool} {n : Nat} : cntB b (n + 1) = cntB b n + ind (b n) := rfl
theorem set_lt {f : Nat} (hf : f < 15) {x : Int} (h : okS f x) : x < 134217729 := by
  have hb := fbase hf
  have := two28 (q := fQ f) (by omega)
  have := h.2
  omega
def T_X10_mark : Tr := fun av h N _ => ∃ (w : FW) (s : RS) (a : AS) (x : Int), av = [mR 1000, mI x] ∧ h = hR w s ∧ RR a s ∧ mm_rng x ∧ RP w (xMark a x).1 (xMark a x).2 N
abbrev e_X10_mark : NE := (ftX10, [(469, (2, 0, 0, false, (0, 10), T_X10_isSet)), (373, (2, 0, 0, false, (0, 10), T_X10_fail)), (472, (2, 0, 0, false, (1, 0), T_X10_isOf))], ltX10, [], [], false, 1, (0, 0), [], [], [], false)
theorem s_X10_mark : mm_Spec e_X10_mark kX10_mark 4 T_X10_mark := by
  rintro N X K av h hK ⟨w, s, a, x, rfl, rfl, hr, hx, h2⟩
  have hq0 : (sI s 1 0).1 4 = (fQ (aF a) : Nat) := hr.2.1.1.2.2.2.1
  have hb := fbase hr.1.1
  refine ⟨rfl, hK [23] _ _ _ _ _ _ ?_⟩
  refine ⟨w, sI s 1 0, x, fQ (aF a), rfl, rfl, hx, hq0, by omega, ?_⟩
  refine And.intro (fun q1 => ?_) (fun q1 => ?_)
  · have q1 := bi_c1 q1
    have hlt := set_lt hr.1.1 q1
    obtain ⟨n, rfl⟩ := Int.eq_ofNat_of_zero_le q1.1
    have e : xMark a n = (aSetW a (fun x => if x < fQ (aF a) then (ind (bitB n x) : Int) else aW a x), 0, (cntB (bitB n) (fQ (aF a)) : Int)) := by unfold xMark; rw [if_pos q1]; rfl
    rw [e] at h2
    have loop : ∀ i : Nat, i ≤ fQ (aF a) → ∀ v : Int → Int, (∀ x : Nat, x < i → v (x : Int) = (ind (bitB n x) : Int)) → K 23 [some (mR 1000), some (mI n), some (mI (cntB (bitB n) i : Nat)), some (mI i)] [] (hR w (sA (sI s 1 0) 26 v)) 0 0 := by
      refine mm_for (fQ (aF a)) (fun v hv => ?_) (fun i hi ih v hv => ?_)
      · have hq : (sA (sI s 1 0) 26 v).1 4 = (fQ (aF a) : Nat) := hq0
        refine hK [23] _ _ _ _ _ _ ?_
        refine And.intro (fun _ => ?_) (fun q => absurd q (by omega))
        refine RP_at h2 (RR_setW (s := sI s 1 0) hr (fun y hy => ?_) (fun y hy => ?_)) rfl rfl rfl
        · show -99 ≤ (if y < fQ (aF a) then (ind (bitB n y) : Int) else aW a y) ∧ (if y < fQ (aF a) then (ind (bitB n y) : Int) else aW a y) ≤ 99
          by_cases q : y < fQ (aF a)
          · rw [if_pos q]; have := ind_le (bitB n y); omega
          · rw [if_neg q]; exact hr.1.2.2.1 y hy
        · show v (y : Int) = if y < fQ (aF a) then (ind (bitB n y) : Int) else aW a y
          rw [if_pos hy]; exact hv y hy
      · have hq : (sA (sI s 1 0) 26 v).1 4 = (fQ (aF a) : Nat) := hq0
        have hle := cntB_le (bitB n) i
        rw [cntB_s] at ih
        have hgo : ∀ c : Int, c = (ind (bitB n i) : Int) → K 23 [some (mR 1000), some (mI n), some (mI ((cntB (bitB n) i : Nat) + c : Int)), some (mI ((i : Int) + 1))] [] (hR w (sA (sI s 1 0) 26 (mm_upd v (i : Int) c))) 0 0 := fun c hc => by
          rw [hc]
          refine ih (mm_upd v (i : Int) (ind (bitB n i) : Int)) (fun y hy => ?_)
          unfold mm_upd
          by_cases q : y = i
          · rw [if_pos (by omega), q]
          · rw [if_neg (by omega)]; exact hv y (by omega)
        have hup : ∀ c : Int, mm_upd v (i : Int) c (i : Int) = c := fun c => by unfold mm_upd; rw [if_pos rfl]
        refine hK [23] _ _ _ _ _ _ ?_
        refine And.intro (fun q => absurd q (by omega)) (fun _ => ?_)
        refine ⟨n, i, rfl, by omega, by omega, ?_⟩
        refine And.intro (fun q => ?_) (fun q => ?_)
        · refine And.intro (by omega) ?_
          refine And.intro (by omega) ?_
          conv => whnf
          rw [show mm_upd ((sA (sI s 1 0) 26 v).2.1 26) (i : Int) 0 (i : Int) = 0 from hup 0]
          refine And.intro (rng_of (by omega) (by omega)) ?_
          refine And.intro (rng_of (by omega) (by omega)) ?_
          exact hgo 0 q.symm
        · refine And.intro (by omega) ?_
          refine And.intro (by omega) ?_
          conv => whnf
          rw [show mm_upd ((sA (sI s 1 0) 26 v).2.1 26) (i : Int) 1 (i : Int) = 1 from hup 1]
          refine And.intro (rng_of (by omega) (by omega)) ?_
          refine And.intro (rng_of (by omega) (by omega)) ?_
          exact hgo 1 (ind_t (ind_n0 q)).symm
    exact loop 0 (by omega) (s.2.1 26) (fun y hy => by omega)
  · have e : xMark a x = (a, 1, 0) := by unfold xMark; rw [if_neg (bi_c0 q1)]
    rw [e] at h2
    exact ⟨w, sI s 1 0, 1, rfl, rfl, RP_fail h2 hr rfl⟩
theorem m_X10_mark (l : Launch) : mm_Met l yX10_mark cX10_mark 4 (some .int) 1 0 0 T_X10_mark := mm_met (E := e_X10_mark) (cd := kX10_mark) s_X10_mark (by decide) kX10_mark_ok (by decide +kernel) (by decide +kernel) (Or.inr (Or.inl ⟨rfl, rfl⟩)) rfl (mm_eok_X10 _) (mm_calls_cons (mm_cbv wi_X10_isSet (tb8 (i := 65) rfl rfl) (m_X10_isSet l) (by decide) (by decide) rfl) (mm_calls_cons (mm_cbv wi_X10_fail (tb6 (i := 180) rfl rfl) (m_X10_fail l) (by decide) (by decide) rfl) (mm_calls_cons (mm_cbs wi_X10_isOf (tb8 (i := 69) rfl rfl) (m_X10_isOf l) (by decide) (by decide) rfl) (mm_calls_nil))))
def T_X10_pairsBy : Tr := fun av h N _ => ∃ (w : FW) (s : RS) (f n d : Nat), av = [mR 1000, mI n, mI d] ∧ h = hR w s ∧ RA f s ∧ n < 2147483648 ∧ d < 27 ∧ N (some (mI (prsN f n d : Nat))) h
abbrev e_X10_pairsBy : NE := (ftX10, [(472, (2, 0, 0, false, (1, 0), T_X10_isOf)), (139, (3, 0, 0, false, (0, 10), T_X10_sumOf))], ltX10, [], [], false, 1, (0, 0), [], [], [], false)
set_option maxHeartbeats 8000000 in
theorem s_X10_pairsBy : mm_Spec e_X10_pairsBy kX10_pairsBy 6 T_X10_pairsBy := by
  rintro N X K av h hK ⟨w, s, f, n, d, rfl, rfl, hA, hn, hd, h2⟩
  have hT := hA.1
  have hf := hT.1
  have hq := hT.2.2.2.1
  obtain ⟨b1, b2, b3, b4, b5, b6, b7, b8, b9, b10, b11, b12⟩ := fbase hf
  have lY : ∀ x m, m ≤ 27 → sumN (fun y => ind ((!(Nat.beq x y)) && (bitB n x && (bitB n y && Nat.beq (fsum f x (fneg f y)) d)))) m ≤ 27 := fun x m hm => by
    have := sumN_le27 (g := fun y => ind ((!(Nat.beq x y)) && (bitB n x && (bitB n y && Nat.beq (fsum f x (fneg f y)) d)))) (M := 1) (n := m) (fun _ => ind_le _) hm
    omega
  have lX : ∀ m, m ≤ 27 → sumN (fun x => sumN (fun y => ind ((!(Nat.beq x y)) && (bitB n x && (bitB n y && Nat.beq (fsum f x (fneg f y)) d)))) (fQ f)) m ≤ 27 * 27 := fun m hm => sumN_le27 (fun x => lY x _ b1) hm
  have loopX : ∀ i : Nat, i ≤ fQ f → ∀ o5 : Option MV, K 5 [some (mR 1000), some (mI n), some (mI d), some (mI (sumN (fun x => sumN (fun y => ind ((!(Nat.beq x y)) && (bitB n x && (bitB n y && Nat.beq (fsum f x (fneg f y)) d)))) (fQ f)) i : Nat)), some (mI i), o5] [] (hR w s) 0 0 := by
    refine mm_for (fQ f) (fun o5 => ?_) (fun i hi ih o5 => ?_)
    · refine hK [5] _ _ _ _ _ _ ?_
      refine And.intro (fun _ => ?_) (fun q => absurd q (by omega))
      exact h2
    · have hle := lX i (by omega)
      rw [sumN_s] at ih
      generalize sumN (fun x => sumN (fun y => ind ((!(Nat.beq x y)) && (bitB n x && (bitB n y && Nat.beq (fsum f x (fneg f y)) d)))) (fQ f)) i = A at ih hle ⊢
      have loopY : ∀ j : Nat, j ≤ fQ f → K 17 [some (mR 1000), some (mI n), some (mI d), some (mI (A + sumN (fun y => ind ((!(Nat.beq i y)) && (bitB n i && (bitB n y && Nat.beq (fsum f i (fneg f y)) d)))) j : Nat)), some (mI i), some (mI j)] [] (hR w s) 0 0 := by
        refine mm_for (fQ f) ?_ (fun j hj ihj => ?_)
        · refine hK [5, 17] _ _ _ _ _ _ ?_
          refine And.intro (fun _ => ?_) (fun q => absurd q (by omega))
          refine And.intro (rng_of (by omega) (by omega)) ?_
          exact ih _
        · have hle2 := lY i j (by omega)
          have hng := fneg_lt hf hj
          have hneg := hA.2.2.1 j hj
          rw [sumN_s] at ihj
          generalize sumN (fun y => ind ((!(Nat.beq i y)) && (bitB n i && (bitB n y && Nat.beq (fsum f i (fneg f y)) d)))) j = B at ihj hle2 ⊢
          have g0 : ind ((!(Nat.beq i j)) && (bitB n i && (bitB n j && Nat.beq (fsum f i (fneg f j)) d))) = 0 → K 17 [some (mR 1000), some (mI n), some (mI d), some (mI (((A + B : Nat) : Int) + 0)), some (mI i), some (mI ((j : Int) + 1))] [] (hR w s) 0 0 := fun e => by
            rw [e] at ihj
            rw [Int.add_zero]
            exact ihj
          refine hK [5, 17] _ _ _ _ _ _ ?_
          refine And.intro (fun q => absurd q (by omega)) (fun _ => ?_)
          refine And.intro (fun q => ?_) (fun q => ?_)
          · refine And.intro (rng_of (by omega) (by omega)) ?_
            refine And.intro (rng_of (by omega) (by omega)) ?_
            refine g0 ?_
            rw [show j = i by omega, Nat.beq_refl]
            rfl
          have e1 : Nat.beq i j = false := bfalse (by omega)
          refine ⟨n, i, rfl, hn, by omega, ?_⟩
          refine And.intro (fun q2 => ?_) (fun q2 => ?_)
          · refine And.intro (rng_of (by omega) (by omega)) ?_
            refine And.intro (rng_of (by omega) (by omega)) ?_
            refine g0 ?_
            rw [e1, ind_e0 q2]
            rfl
          have e2 := ind_n0 q2
          refine ⟨n, j, rfl, hn, by omega, ?_⟩
          refine And.intro (fun q3 => ?_) (fun q3 => ?_)
          · refine And.intro (rng_of (by omega) (by omega)) ?_
            refine And.intro (rng_of (by omega) (by omega)) ?_
            refine g0 ?_
            rw [e1, e2, ind_e0 q3]
            rfl
          have e3 := ind_n0 q3
          refine And.intro (by omega) ?_
          refine ⟨w, s, i, (fneg f j : Nat), by show [mR 1000, mI (i : Int), mI (s.2.1 9 (j : Int))] = _; rw [hneg], rfl, ⟨by omega, by omega, by omega, by omega⟩, ?_⟩
          rw [hT.2.2.2.2.1 _ _ hi hng]
          refine And.intro (fun q4 => ?_) (fun q4 => ?_)
          · refine And.intro (rng_of (by omega) (by omega)) ?_
            refine And.intro (rng_of (by omega) (by omega)) ?_
            refine g0 ?_
            rw [e1, e2, e3, bfalse (by omega)]
            rfl
          · rw [show ind ((!(Nat.beq i j)) && (bitB n i && (bitB n j && Nat.beq (fsum f i (fneg f j)) d))) = 1 by rw [e1, e2, e3, show fsum f i (fneg f j) = d by omega, Nat.beq_refl]; rfl] at ihj
            refine And.intro (rng_of (by omega) (by omega)) ?_
            refine And.intro (rng_of (by omega) (by omega)) ?_
            exact ihj
      refine hK [5, 17] _ _ _ _ _ _ ?_
      refine And.intro (fun q => absurd q (by omega)) (fun _ => ?_)
      exact loopY 0 (by omega)
  refine ⟨rfl, hK [5] _ _ _ _ _ _ ?_⟩
  exact loopX 0 (by omega) none
theorem m_X10_pairsBy (l : Launch) : mm_Met l yX10_pairsBy cX10_pairsBy 6 (some .int) 1 0 0 T_X10_pairsBy := mm_met (E := e_X10_pairsBy) (cd := kX10_pairsBy) s_X10_pairsBy (by decide) kX10_pairsBy_ok (by decide +kernel) (by decide +kernel) (Or.inr (Or.inl ⟨rfl, rfl⟩)) rfl (mm_eok_X10 _) (mm_calls_cons (mm_cbs wi_X10_isOf (tb8 (i := 69) rfl rfl) (m_X10_isOf l) (by decide) (by decide) rfl) (mm_calls_cons (mm_cbv wi_X10_sumOf (tb5 (i := 205) rfl rfl) (m_X10_sumOf l) (by decide) (by decide) rfl) (mm_calls_nil)))
def T_X10_differences : Tr := fun av h N _ => ∃ (w : FW) (s : RS) (a : AS) (x : Int), av = [mR 1000, mI x] ∧ h = hR w s ∧ RR a s ∧ mm_rng x ∧ RP w a (xDifferences (aF a) x) N
abbrev e_X10_differences : NE := (ftX10, [(469, (2, 0, 0, false, (0, 10), T_X10_isSet)), (373, (2, 0, 0, false, (0, 10), T_X10_fail)), (475, (3, 0, 0, false, (0, 10), T_X10_pairsBy))], ltX10, [], [], false, 1, (0, 0), [], [], [], false)
theorem s_X10_differences : mm_Spec e_X10_differences kX10_differences 4 T_X10_differences := by
  rintro N X K av h hK ⟨w, s, a, x, rfl, rfl, hr, hx, h2⟩
  have hA : RA (aF a) (sI s 1 0) := hr.2.1
  have hq : (sI s 1 0).1 4 = (fQ (aF a) : Nat) := hr.2.1.1.2.2.2.1
  have hb := fbase hr.1.1
  refine ⟨rfl, hK [28] _ _ _ _ _ _ ?_⟩
  refine ⟨w, sI s 1 0, x, fQ (aF a), rfl, rfl, hx, hq, by omega, ?_⟩
  refine And.intro (fun q1 => ?_) (fun q1 => ?_)
  · have q1 := bi_c1 q1
    have hlt := set_lt hr.1.1 q1
    obtain ⟨n, rfl⟩ := Int.eq_ofNat_of_zero_le q1.1
    refine ⟨w, sI s 1 0, aF a, n, 1, rfl, rfl, hA, by omega, by omega, ?_⟩
    have loop : ∀ d : Nat, d ≤ fQ (aF a) → 2 ≤ d → (∀ e, e < d → 2 ≤ e → prsN (aF a) n e = prsN (aF a) n 1) → K 28 [some (mR 1000), some (mI n), some (mI (prsN (aF a) n 1 : Nat)), some (mI d)] [] (hR w (sI s 1 0)) 0 0 := by
      refine mm_for (fQ (aF a)) (fun _ hall => ?_) (fun d hd ih hd2 hall => ?_)
      · refine hK [28] _ _ _ _ _ _ ?_
        refine And.intro (fun _ => ?_) (fun q => absurd q (by omega))
        exact RP_ok h2 hr (by unfold xDifferences; rw [if_pos q1, Int.toNat_natCast, if_pos hall]) rfl
      · refine hK [28] _ _ _ _ _ _ ?_
        refine And.intro (fun q => absurd q (by omega)) (fun _ => ?_)
        refine ⟨w, sI s 1 0, aF a, n, d, rfl, rfl, hA, by omega, by omega, ?_⟩
        refine And.intro (fun q => ?_) (fun q => ?_)
        · refine And.intro (rng_of (by omega) (by omega)) ?_
          refine ih (by omega) (fun e he he2 => ?_)
          by_cases z : e = d
          · rw [z]; omega
          · exact hall e (by omega) he2
        · refine RP_ok h2 hr (v := -1) ?_ rfl
          unfold xDifferences
          rw [if_pos q1, if_neg (fun hh => q (by have := hh d hd hd2; rw [Int.toNat_natCast] at this; omega))]
    exact loop 2 (by omega) (by omega) (fun e he he2 => by omega)
  · exact ⟨w, sI s 1 0, 1, rfl, rfl, RP_fail h2 hr (by unfold xDifferences; rw [if_neg (bi_c0 q1)])⟩
theorem m_X10_differences (l : Launch) : mm_Met l yX10_differences cX10_differences 4 (some .int) 2 0 0 T_X10_differences := mm_met (E := e_X10_differences) (cd := kX10_differences) s_X10_differences (by decide) kX10_differences_ok (by decide +kernel) (by decide +kernel) (Or.inr (Or.inl ⟨rfl, rfl⟩)) rfl (mm_eok_X10 _) (mm_calls_cons (mm_cbv wi_X10_isSet (tb8 (i := 65) rfl rfl) (m_X10_isSet l) (by decide) (by decide) rfl) (mm_calls_cons (mm_cbv wi_X10_fail (tb6 (i := 180) rfl rfl) (m_X10_fail l) (by decide) (by decide) rfl) (mm_calls_cons (mm_cbv wi_X10_pairsBy (tb8 (i := 76) rfl rfl) (m_X10_pairsBy l) (by decide) (by decide) rfl) (mm_calls_nil))))
def T_X10_cyclotomic : Tr := fun av h N _ => ∃ (w : FW) (s : RS) (a : AS) (e i j : Int), av = [mR 1000, mI e, mI i, mI j] ∧ h = hR w s ∧ RR a s ∧ mm_rng e ∧ mm_rng i ∧ mm_rng j ∧ RP w a (xCyclotomic (aF a) e i j) N
abbrev e_X10_cyclotomic : NE := (ftX10, [(345, (3, 0, 0, false, (0, 10), T_X10_isClass)), (162, (3, 0, 0, false, (1, 0), T_X10_isIn)), (373, (2, 0, 0, false, (0, 10), T_X10_fail)), (139, (3, 0, 0, false, (0, 10), T_X10_sumOf))], ltX10, [], [], false, 1, (0, 0), [], [], [], false)
set_option maxHeartbeats 8000000 in
theorem s_X10_cyclotomic : mm_Spec e_X10_cyclotomic kX10_cyclotomic 7 T_X10_cyclotomic := by
  rintro N X K av h hK ⟨w, s, a, e, i, j, rfl, rfl, hr, he, hi, hj, h2⟩
  have hA : RA (aF a) (sI s 1 0) := hr.2.1
  obtain ⟨f, hf0⟩ : ∃ f, f = aF a := ⟨_, rfl⟩
  have hf : f < 15 := by rw [hf0]; exact hr.1.1
  rw [← hf0] at hA h2
  have hT := hA.1
  have hq := hT.2.2.2.1
  obtain ⟨b1, b2, b3, b4, b5, b6, b7, b8, b9, b10, b11, b12⟩ := fbase hf
  refine ⟨rfl, hK [39] _ _ _ _ _ _ ?_⟩
  refine ⟨w, sI s 1 0, e, i, fQ f, rfl, rfl, he, hi, hq, by omega, by omega, ?_⟩
  refine And.intro (fun q1 => ?_) (fun q1 => ?_)
  · exact ⟨w, sI s 1 0, 1, rfl, rfl, RP_fail h2 hr (by unfold xCyclotomic; rw [if_neg (fun z => bi_c0 q1 z.1)])⟩
  have q1 := bi_c1 q1
  have he1 := q1.1
  unfold mm_rng at he
  refine And.intro (rng_of (by omega) (by omega)) ?_
  refine ⟨_, _, _, rfl, ?_⟩
  rw [l_0, l_of hj, l_of (rng_of (by omega) (by omega))]
  refine And.intro (fun q2 => ?_) (fun q2 => ?_)
  · have q2 := bi_c1 q2
    obtain ⟨m, rfl⟩ := Int.eq_ofNat_of_zero_le (show 0 ≤ e by omega)
    obtain ⟨n, rfl⟩ := Int.eq_ofNat_of_zero_le q1.2.2.1
    obtain ⟨k, rfl⟩ := Int.eq_ofNat_of_zero_le q2.1
    have hxx : xCyclotomic f m n k = (0, (cycN2 f m n k : Int)) := by unfold xCyclotomic; rw [if_pos ⟨q1, q1.1, q1.2.1, q2.1, by omega⟩]; rfl
    have loop : ∀ x : Nat, x ≤ fQ f → 1 ≤ x → ∀ o6 : Option MV, K 39 [some (mR 1000), some (mI m), some (mI n), some (mI k), some (mI (cntB (fun x => (!(Nat.beq x 0)) && (Nat.beq (flog f x % m) n && ((!(Nat.beq (fsum f 1 x) 0)) && Nat.beq (flog f (fsum f 1 x) % m) k))) x : Nat)), some (mI x), o6] [] (hR w (sI s 1 0)) 0 0 := by
      refine mm_for (fQ f) (fun _ o6 => ?_) (fun x hx ih hx1 o6 => ?_)
      · refine hK [39] _ _ _ _ _ _ ?_
        refine And.intro (fun _ => ?_) (fun q => absurd q (by omega))
        exact RP_ok h2 hr hxx rfl
      · have hle := cntB_le (fun x => (!(Nat.beq x 0)) && (Nat.beq (flog f x % m) n && ((!(Nat.beq (fsum f 1 x) 0)) && Nat.beq (flog f (fsum f 1 x) % m) k))) x
        rw [cntB_s] at ih
        generalize cntB (fun x => (!(Nat.beq x 0)) && (Nat.beq (flog f x % m) n && ((!(Nat.beq (fsum f 1 x) 0)) && Nat.beq (flog f (fsum f 1 x) % m) k))) x = A at ih hle ⊢
        have hs := fsum_lt hf (show 1 < fQ f by omega) hx
        have hl := flog_lt hf hx
        have hl2 := flog_lt hf hs
        have e0 : Nat.beq x 0 = false := bfalse (by omega)
        have g0 : ind ((!(Nat.beq x 0)) && (Nat.beq (flog f x % m) n && ((!(Nat.beq (fsum f 1 x) 0)) && Nat.beq (flog f (fsum f 1 x) % m) k))) = 0 → K 39 [some (mR 1000), some (mI m), some (mI n), some (mI k), some (mI ((A : Int) + 0)), some (mI ((x : Int) + 1)), some (mI ((fsum f 1 x : Nat) : Int))] [] (hR w (sI s 1 0)) 0 0 := fun e => by
          have ih2 := ih (by omega) (some (mI ((fsum f 1 x : Nat) : Int)))
          rw [show ind ((fun x => (!(Nat.beq x 0)) && (Nat.beq (flog f x % m) n && ((!(Nat.beq (fsum f 1 x) 0)) && Nat.beq (flog f (fsum f 1 x) % m) k))) x) = 0 from e] at ih2
          rw [Int.add_zero]
          exact ih2
        refine hK [39] _ _ _ _ _ _ ?_
        refine And.intro (fun q => absurd q (by omega)) (fun _ => ?_)
        refine ⟨w, sI s 1 0, 1, x, rfl, rfl, ⟨by omega, by omega, by omega, by omega⟩, ?_⟩
        rw [show (sI s 1 0).2.1 7 (27 * 1 + (x : Int)) = _ from hT.2.2.2.2.1 1 x (by omega) hx]
        refine And.intro (by omega) ?_
        conv => whnf
        rw [show (sI s 1 0).2.1 10 (x : Int) = _ from hA.2.2.2.1 x hx1 hx]
        refine And.intro (dv_ok (by omega) (by omega)) ?_
        rw [tmn]
        refine And.intro (fun q => ?_) (fun q => ?_)
        · refine And.intro (rng_of (by omega) (by omega)) ?_
          refine And.intro (rng_of (by omega) (by omega)) ?_
          refine g0 ?_
          rw [e0, bfalse (show flog f x % m ≠ n by omega)]
          rfl
        have e1 : Nat.beq (flog f x % m) n = true := by rw [show flog f x % m = n by omega]; exact Nat.beq_refl n
        refine And.intro (fun q3 => ?_) (fun q3 => ?_)
        · refine And.intro (rng_of (by omega) (by omega)) ?_
          refine And.intro (rng_of (by omega) (by omega)) ?_
          refine g0 ?_
          rw [e0, e1, show fsum f 1 x = 0 by omega]
          rfl
        have e2 : Nat.beq (fsum f 1 x) 0 = false := bfalse (by omega)
        refine And.intro (by omega) ?_
        conv => whnf
        rw [show (sI s 1 0).2.1 10 ((fsum f 1 x : Nat) : Int) = _ from hA.2.2.2.1 _ (by omega) hs]
        refine And.intro (dv_ok (by omega) (by omega)) ?_
        rw [tmn]
        refine And.intro (fun q4 => ?_) (fun q4 => ?_)
        · refine And.intro (rng_of (by omega) (by omega)) ?_
          refine And.intro (rng_of (by omega) (by omega)) ?_
          refine g0 ?_
          rw [e0, e1, e2, bfalse (show flog f (fsum f 1 x) % m ≠ k by omega)]
          rfl
        · have e3 : Nat.beq (flog f (fsum f 1 x) % m) k = true := by rw [show flog f (fsum f 1 x) % m = k by omega]; exact Nat.beq_refl k
          have ih2 := ih (by omega) (some (mI ((fsum f 1 x : Nat) : Int)))
          rw [show ind ((fun x => (!(Nat.beq x 0)) && (Nat.beq (flog f x % m) n && ((!(Nat.beq (fsum f 1 x) 0)) && Nat.beq (flog f (fsum f 1 x) % m) k))) x) = 1 by show ind ((!(Nat.beq x 0)) && (Nat.beq (flog f x % m) n && ((!(Nat.beq (fsum f 1 x) 0)) && Nat.beq (flog f (fsum f 1 x) % m) k))) = 1; rw [e0, e1, e2, e3]; rfl] at ih2
          refine And.intro (rng_of (by omega) (by omega)) ?_
          refine And.intro (rng_of (by omega) (by omega)) ?_
          exact ih2
    exact loop 1 (by omega) (by omega) none
  · exact ⟨w, sI s 1 0, 1, rfl, rfl, RP_fail h2 hr (by unfold xCyclotomic; rw [if_neg (fun z => bi_c0 q2 ⟨z.2.2.2.1, by have := z.2.2.2.2; omega⟩)])⟩
theorem m_X10_cyclotomic (l : Launch) : mm_Met l yX10_cyclotomic cX10_cyclotomic 7 (some .int) 2 0 0 T_X10_cyclotomic := mm_met (E := e_X10_cyclotomic) (cd := kX10_cyclotomic) s_X10_cyclotomic (by decide) kX10_cyclotomic_ok (by decide +kernel) (by decide +kernel) (Or.inr (Or.inl ⟨rfl, rfl⟩)) rfl (mm_eok_X10 _) (mm_calls_cons (mm_cbv wi_X10_isClass (tb7 (i := 69) rfl rfl) (m_X10_isClass l) (by decide) (by decide) rfl) (mm_calls_cons (mm_cbs wi_X10_isIn (tb6 (i := 177) rfl rfl) (m_X10_isIn l) (by decide) (by decide) rfl) (mm_calls_cons (mm_cbv wi_X10_fail (tb6 (i := 180) rfl rfl) (m_X10_fail l) (by decide) (by decide) rfl) (mm_calls_cons (mm_cbv wi_X10_sumOf (tb5 (i := 205) rfl rfl) (m_X10_sumOf l) (by decide) (by decide) rfl) (mm_calls_nil)))))
