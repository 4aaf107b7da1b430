/-! the reference: a field begins -/
theorem beg_c : fevery (fun f => (List.range (fQ f - 1)).all (fun i => Nat.beq (pw f (fG f) i) (fpow f i) && (Nat.blt (fpow f i) (fQ f) && Nat.beq (flog f (fpow f i)) i)) && (fall f (fun x => Nat.beq x 0 || Nat.beq (fpow f (flog f x)) x) && (fall f (fun x => fall f (fun y => Bool.xor (Nat.beq (fsum f x y) 0) (!(Nat.beq y (fneg f x))))) && (!(Nat.beq (fK f) 1) || Nat.beq (fM f) 0)))) = true := by decide +kernel
theorem beg_at {f : Nat} (hf : f < 15) : (∀ i, i < fQ f - 1 → pw f (fG f) i = fpow f i ∧ fpow f i < fQ f ∧ flog f (fpow f i) = i) ∧ (∀ x, 1 ≤ x → x < fQ f → fpow f (flog f x) = x) ∧ (∀ x y, x < fQ f → y < fQ f → (fsum f x y = 0 ↔ y = fneg f x)) ∧ (fK f = 1 → fM f = 0) := by
  have h := fevery_at beg_c hf
  simp only [Bool.and_eq_true] at h
  obtain ⟨h1, h2, h3, h4⟩ := h
  refine ⟨fun i hi => ?_, fun x hx hxq => ?_, fun x y hx hy => ?_, fun hk => ?_⟩
  · have := List.all_eq_true.mp h1 i (List.mem_range.mpr hi)
    simp only [Bool.and_eq_true] at this
    exact ⟨Nat.eq_of_beq_eq_true this.1, mm_blt_t this.2.1, Nat.eq_of_beq_eq_true this.2.2⟩
  · have := fall_at h2 hxq
    rw [Bool.or_eq_true] at this
    rcases this with q | q
    · exact absurd (Nat.eq_of_beq_eq_true q) (by omega)
    · exact Nat.eq_of_beq_eq_true q
  · have := fall_at (fall_at h3 hx) hy
    cases ha : Nat.beq (fsum f x y) 0 <;> cases hb : Nat.beq y (fneg f x) <;> rw [ha, hb] at this <;> simp at this
    · constructor
      · intro e; rw [e] at ha; cases ha
      · intro e; rw [e, Nat.beq_refl] at hb; cases hb
    · exact ⟨fun _ => Nat.eq_of_beq_eq_true hb, fun _ => Nat.eq_of_beq_eq_true ha⟩
  · rw [hk] at h4
    exact Nat.eq_of_beq_eq_true h4
theorem gen_at {f : Nat} (hf : f < 15) : ordN f (fG f) 30 (fG f) 1 = fQ f - 1 ∧ 0 < fG f ∧ fG f < fQ f ∧ ∀ x, 1 ≤ x → x < fG f → ordN f x 30 x 1 ≠ fQ f - 1 := by
  have h := fevery_at gen_c hf
  simp only [Bool.and_eq_true] at h
  obtain ⟨h1, h2, h3, h4⟩ := h
  refine ⟨Nat.eq_of_beq_eq_true h1, mm_blt_t h2, mm_blt_t h3, fun x hx hx2 e => ?_⟩
  have := List.all_eq_true.mp h4 x (List.mem_range.mpr hx2)
  rw [e, Nat.beq_refl, Bool.or_eq_true] at this
  rcases this with q | q
  · exact absurd (Nat.eq_of_beq_eq_true q) (by omega)
  · cases q
theorem bfalse {a b : Nat} (h : a ≠ b) : Nat.beq a b = false := by
  cases hz : Nat.beq a b with
  | true => exact absurd (Nat.eq_of_beq_eq_true hz) h
  | false => rfl
abbrev FRB (s s' : RS) : Prop := FR [2, 3, 4, 5, 6, 14, 15, 23] [7, 8, 9, 10, 11, 12, 13, 21, 22, 26] [16, 17, 20, 24] s s'
def RB (f : Nat) (s s' : RS) : Prop := FRB s s' ∧ s'.1 2 = (fP f : Nat) ∧ s'.1 3 = (fK f : Nat) ∧ s'.1 4 = (fQ f : Nat)
def BG (f : Nat) (s' : RS) : Prop := RA f s' ∧ s'.1 5 = (fM f : Nat) ∧ s'.1 6 = (fG f : Nat) ∧ (∀ i : Nat, i < 2048 → s'.2.2 24 (i : Int) = 0) ∧ ∀ x : Nat, x < 27 → s'.2.1 26 (x : Int) = 0
def T_X10_begin : Tr := fun av h N _ => ∃ (w : FW) (s : RS) (f : Nat), av = [mR 1000, mI (fP f : Nat), mI (fK f : Nat)] ∧ h = hR w s ∧ f < 15 ∧ ∀ s' : RS, FRB s s' → BG f s' → N (some (mI (fQ f : Nat))) (hR w s')
abbrev e_X10_begin : NE := (ftX10, [(110, (2, 0, 0, false, (1, 0), T_X10_powerOf)), (132, (2, 0, 0, false, (0, 10), T_X10_isPrime)), (136, (3, 0, 0, false, (0, 10), T_X10_addDigits)), (122, (4, 0, 0, false, (0, 10), T_X10_multiplyBy)), (139, (3, 0, 0, false, (0, 10), T_X10_sumOf)), (145, (2, 0, 0, false, (0, 10), T_X10_orderOf)), (126, (3, 0, 0, false, (0, 10), T_X10_productOf)), (149, (2, 0, 0, false, (0, 10), T_X10_traceOf)), (152, (1, 0, 0, false, (0, 10), T_X10_layRoot)), (155, (2, 0, 0, false, (0, 10), T_X10_clear))], ltX10, [], [], false, 1, (0, 0), [], [], [], false)
set_option maxHeartbeats 8000000 in
theorem s_X10_begin : mm_Spec e_X10_begin kX10_begin 5 T_X10_begin := by
  rintro N X K av h hK ⟨w, s, f, rfl, rfl, hf, h2⟩
  obtain ⟨b1, b2, b3, b4, b5, b6, b7, b8, b9, b10, b11, b12⟩ := fbase hf
  obtain ⟨g1, g2, g3, g4⟩ := beg_at hf
  obtain ⟨e1, e2, e3, e4⟩ := gen_at hf
  have hM := fM_lt hf
  -- no weights
  have loopF : ∀ x : Nat, x ≤ 27 → ∀ (s' : RS) (o3 : Int), FRB s s' → RA f s' → s'.1 5 = (fM f : Nat) → s'.1 6 = (fG f : Nat) → (∀ i : Nat, i < 2048 → s'.2.2 24 (i : Int) = 0) → (∀ j : Nat, j < x → s'.2.1 26 (j : Int) = 0) → K 353 [some (mR 1000), some (mI (fP f : Nat)), some (mI (fK f : Nat)), some (mI o3), some (mI x)] [] (hR w s') 0 0 := by
    refine mm_for 27 (fun s' o3 hF hA h5 h6 hv hx => ?_) (fun x hx27 ih s' o3 hF hA h5 h6 hv hx => ?_)
    · refine hK [353] _ _ _ _ _ _ ?_
      refine And.intro (fun _ => ?_) (fun q => absurd q (by omega))
      conv => whnf
      rw [hA.1.2.2.2.1]
      exact h2 s' hF ⟨hA, h5, h6, hv, hx⟩
    · refine hK [353] _ _ _ _ _ _ ?_
      refine And.intro (fun q => absurd q (by omega)) (fun _ => ?_)
      refine And.intro (by omega) ?_
      refine And.intro (rng_of (by omega) (by omega)) ?_
      refine ih (sA s' 26 (mm_upd (s'.2.1 26) (x : Int) 0)) o3 (FR_A hF rfl) hA h5 h6 hv (fun j hj => ?_)
      show mm_upd (s'.2.1 26) (x : Int) 0 (j : Int) = 0
      unfold mm_upd
      split
      · rfl
      · exact hx j (by omega)
  -- no values
  have loopP : ∀ a : Nat, a ≤ 8 → ∀ (s' : RS) (o3 : Int), FRB s s' → RA f s' → s'.1 5 = (fM f : Nat) → s'.1 6 = (fG f : Nat) → (∀ i : Nat, i < 256 * a → s'.2.2 24 (i : Int) = 0) → K 331 [some (mR 1000), some (mI (fP f : Nat)), some (mI (fK f : Nat)), some (mI o3), some (mI a)] [] (hR w s') 0 0 := by
    refine mm_for 8 (fun s' o3 hF hA h5 h6 hv => ?_) (fun a ha ih s' o3 hF hA h5 h6 hv => ?_)
    · refine hK [331, 353] _ _ _ _ _ _ ?_
      refine And.intro (fun _ => ?_) (fun q => absurd q (by omega))
      exact loopF 0 (by omega) s' o3 hF hA h5 h6 hv (fun j hj => by omega)
    · refine hK [331, 353] _ _ _ _ _ _ ?_
      refine And.intro (fun q => absurd q (by omega)) (fun _ => ?_)
      refine ⟨w, s', a, rfl, rfl, by omega, fun v hv2 => ?_⟩
      refine And.intro (rng_of (by omega) (by omega)) ?_
      refine ih (sL s' 24 v) o3 (FR_L hF rfl) hA h5 h6 (fun i hi => ?_)
      show v (i : Int) = 0
      rw [hv2]
      by_cases q : 256 * (a : Int) ≤ i ∧ (i : Int) < 256 * (a : Int) + 256
      · rw [if_pos q]
      · rw [if_neg q]
        exact hv i (by omega)
  -- traces
  have loopT : ∀ x : Nat, x ≤ fQ f → ∀ (s' : RS) (o3 : Int), FRB s s' → RT f s' → s'.1 5 = (fM f : Nat) → s'.1 6 = (fG f : Nat) → (∀ x : Nat, x < fQ f → s'.2.1 9 (x : Int) = (fneg f x : Nat)) → (∀ x : Nat, 1 ≤ x → x < fQ f → s'.2.1 10 (x : Int) = (flog f x : Nat)) → (∀ j : Nat, j < x → s'.2.1 12 (j : Int) = (ftr f j : Nat)) → K 296 [some (mR 1000), some (mI (fP f : Nat)), some (mI (fK f : Nat)), some (mI o3), some (mI x)] [] (hR w s') 0 0 := by
    refine mm_for (fQ f) (fun s' o3 hF hT h5 h6 hn hl ht => ?_) (fun x hx ih s' o3 hF hT h5 h6 hn hl ht => ?_)
    · have hq := hT.2.2.2.1
      refine hK [296, 331] _ _ _ _ _ _ ?_
      refine And.intro (fun _ => ?_) (fun q => absurd q (by omega))
      refine ⟨w, s', f, rfl, rfl, hf, hT.2.1, hT.2.2.2.1, fun s2 hF2 hQ2 => ?_⟩
      refine loopP 0 (by omega) s2 o3 (FR_tr hF hF2 rfl rfl rfl) ⟨RT_fr hT hF2 rfl rfl rfl rfl rfl, hQ2, ?_, ?_, ?_⟩ (by rw [hF2.1 5 rfl]; exact h5) (by rw [hF2.1 6 rfl]; exact h6) (fun i hi => by omega)
      · rw [hF2.2.1 9 rfl]; exact hn
      · rw [hF2.2.1 10 rfl]; exact hl
      · rw [hF2.2.1 12 rfl]; exact ht
    · have hq := hT.2.2.2.1
      refine hK [296, 331] _ _ _ _ _ _ ?_
      refine And.intro (fun q => absurd q (by omega)) (fun _ => ?_)
      refine ⟨w, s', f, x, rfl, rfl, hT, hx, ?_⟩
      refine And.intro (by omega) ?_
      refine And.intro (rng_of (by omega) (by omega)) ?_
      refine ih (sA s' 12 (mm_upd (s'.2.1 12) (x : Int) (ftr f x : Nat))) o3 (FR_A hF rfl) hT h5 h6 hn hl (fun j hj => ?_)
      show mm_upd (s'.2.1 12) (x : Int) (ftr f x : Nat) (j : Int) = _
      unfold mm_upd
      by_cases q : j = x
      · rw [if_pos (by omega), q]
      · rw [if_neg (by omega)]
        exact ht j (by omega)
  -- logs
  have loopL : ∀ i : Nat, i ≤ fQ f - 1 → ∀ (s' : RS) (v : Nat), FRB s s' → RT f s' → s'.1 5 = (fM f : Nat) → s'.1 6 = (fG f : Nat) → (∀ x : Nat, x < fQ f → s'.2.1 9 (x : Int) = (fneg f x : Nat)) → v = pw f (fG f) i → (∀ j : Nat, j < i → s'.2.1 10 ((fpow f j : Nat) : Int) = (j : Nat)) → K 250 [some (mR 1000), some (mI (fP f : Nat)), some (mI (fK f : Nat)), some (mI v), some (mI i)] [] (hR w s') 0 0 := by
    refine mm_for (fQ f - 1) (fun s' v hF hT h5 h6 hn hv hl => ?_) (fun i hi ih s' v hF hT h5 h6 hn hv hl => ?_)
    · have hq := hT.2.2.2.1
      refine hK [250, 296] _ _ _ _ _ _ ?_
      conv => whnf
      rw [hq]
      refine And.intro (rng_of (by omega) (by omega)) ?_
      refine And.intro (fun _ => ?_) (fun q => absurd q (by omega))
      refine loopT 0 (by omega) s' (v : Int) hF hT h5 h6 hn (fun x hx1 hx => ?_) (fun j hj => by omega)
      have := hl (flog f x) (flog_lt hf hx)
      rw [g2 x hx1 hx] at this
      exact this
    · have hq := hT.2.2.2.1
      obtain ⟨p1, p2, p3⟩ := g1 i hi
      rw [p1] at hv
      subst hv
      refine hK [250, 296] _ _ _ _ _ _ ?_
      conv => whnf
      rw [hq]
      refine And.intro (rng_of (by omega) (by omega)) ?_
      refine And.intro (fun q => absurd q (by omega)) (fun _ => ?_)
      refine And.intro (by omega) ?_
      refine And.intro (by omega) ?_
      refine ⟨w, sA (sA s' 10 (mm_upd (s'.2.1 10) ((fpow f i : Nat) : Int) (i : Nat))) 11 (mm_upd (s'.2.1 11) (i : Nat) ((fpow f i : Nat) : Int)), (fpow f i : Nat), (fG f : Nat), by show [mR 1000, mI ((fpow f i : Nat) : Int), mI (s'.1 6)] = _; rw [h6], rfl, ⟨by omega, by omega, by omega, by omega⟩, ?_⟩
      rw [show (sA (sA s' 10 (mm_upd (s'.2.1 10) ((fpow f i : Nat) : Int) (i : Nat))) 11 (mm_upd (s'.2.1 11) (i : Nat) ((fpow f i : Nat) : Int))).2.1 8 (27 * ((fpow f i : Nat) : Int) + (fG f : Nat)) = _ from hT.2.2.2.2.2 _ _ p2 e3]
      refine And.intro (rng_of (by omega) (by omega)) ?_
      refine ih (sA (sA s' 10 (mm_upd (s'.2.1 10) ((fpow f i : Nat) : Int) (i : Nat))) 11 (mm_upd (s'.2.1 11) (i : Nat) ((fpow f i : Nat) : Int))) (fprd f (fpow f i) (fG f)) (FR_A (FR_A hF rfl) rfl) hT h5 h6 hn (by rw [← p1]; rfl) (fun j hj => ?_)
      show mm_upd (s'.2.1 10) ((fpow f i : Nat) : Int) (i : Nat) ((fpow f j : Nat) : Int) = _
      unfold mm_upd
      by_cases q : j = i
      · rw [if_pos (by rw [q]), q]
      · have hne : fpow f j ≠ fpow f i := fun e => by
          have h3 := (g1 j (by omega)).2.2
          rw [e, p3] at h3
          omega
        rw [if_neg (by omega)]
        exact hl j (by omega)
  -- the generator
  have loopG : ∀ t : Nat, t ≤ fG f → 1 ≤ t → ∀ (s' : RS) (o3 o4 : Option MV), FRB s s' → RT f s' → s'.1 5 = (fM f : Nat) → s'.1 6 = (t : Nat) → (∀ x : Nat, x < fQ f → s'.2.1 9 (x : Int) = (fneg f x : Nat)) → K 215 [some (mR 1000), some (mI (fP f : Nat)), some (mI (fK f : Nat)), o3, o4] [] (hR w s') 0 0 := by
    refine mm_for (fG f) (fun ht1 s' o3 o4 hF hT h5 h6 hn => ?_) (fun t ht ih ht1 s' o3 o4 hF hT h5 h6 hn => ?_)
    · have hq := hT.2.2.2.1
      refine hK [215, 250] _ _ _ _ _ _ ?_
      refine ⟨w, s', f, fG f, by show [mR 1000, mI (s'.1 6)] = _; rw [h6], rfl, hT, e2, e3, ?_⟩
      rw [e1]
      conv => whnf
      rw [hq]
      refine And.intro (rng_of (by omega) (by omega)) ?_
      refine And.intro (fun _ => ?_) (fun q => absurd q (by omega))
      exact loopL 0 (by omega) s' 1 hF hT h5 h6 hn rfl (fun j hj => by omega)
    · have hq := hT.2.2.2.1
      have hne := e4 t ht1 ht
      refine hK [215, 250] _ _ _ _ _ _ ?_
      refine ⟨w, s', f, t, by show [mR 1000, mI (s'.1 6)] = _; rw [h6], rfl, hT, ht1, by omega, ?_⟩
      conv => whnf
      rw [hq]
      refine And.intro (rng_of (by omega) (by omega)) ?_
      refine And.intro (fun q => absurd q (by omega)) (fun _ => ?_)
      refine And.intro (rng_of (by omega) (by omega)) ?_
      exact ih (by omega) (sI s' 6 (s'.1 6 + 1)) o3 o4 (FR_I hF rfl) hT h5 (by show s'.1 6 + 1 = _; rw [h6]; rfl) hn
  -- what is less
  have loopN : ∀ x : Nat, x ≤ fQ f → ∀ (s' : RS) (o4 : Option MV), FRB s s' → RT f s' → s'.1 5 = (fM f : Nat) → (∀ x2 : Nat, x2 < x → s'.2.1 9 (x2 : Int) = (fneg f x2 : Nat)) → K 160 [some (mR 1000), some (mI (fP f : Nat)), some (mI (fK f : Nat)), some (mI x), o4] [] (hR w s') 0 0 := by
    refine mm_for (fQ f) (fun s' o4 hF hT h5 hn => ?_) (fun x hx ih s' o4 hF hT h5 hn => ?_)
    · have hq := hT.2.2.2.1
      refine hK [160, 215] _ _ _ _ _ _ ?_
      refine And.intro (fun _ => ?_) (fun q => absurd q (by omega))
      exact loopG 1 (by omega) (by omega) (sI s' 6 1) _ _ (FR_I hF rfl) hT h5 rfl hn
    · have loopY : ∀ y : Nat, y ≤ fQ f → ∀ s' : RS, FRB s s' → RT f s' → s'.1 5 = (fM f : Nat) → (∀ x2 : Nat, x2 < x → s'.2.1 9 (x2 : Int) = (fneg f x2 : Nat)) → (fneg f x < y → s'.2.1 9 (x : Int) = (fneg f x : Nat)) → K 171 [some (mR 1000), some (mI (fP f : Nat)), some (mI (fK f : Nat)), some (mI x), some (mI y)] [] (hR w s') 0 0 := by
        refine mm_for (fQ f) (fun s' hF hT h5 hn hx9 => ?_) (fun y hy ihy s' hF hT h5 hn hx9 => ?_)
        · have hq := hT.2.2.2.1
          refine hK [160, 171] _ _ _ _ _ _ ?_
          refine And.intro (fun _ => ?_) (fun q => absurd q (by omega))
          refine And.intro (rng_of (by omega) (by omega)) ?_
          refine ih s' _ hF hT h5 (fun x2 hx2 => ?_)
          by_cases q : x2 = x
          · rw [q]; exact hx9 (fneg_lt hf hx)
          · exact hn x2 (by omega)
        · have hq := hT.2.2.2.1
          refine hK [160, 171] _ _ _ _ _ _ ?_
          refine And.intro (fun q => absurd q (by omega)) (fun _ => ?_)
          refine ⟨w, s', x, y, rfl, rfl, ⟨by omega, by omega, by omega, by omega⟩, ?_⟩
          rw [hT.2.2.2.2.1 x y hx hy]
          refine And.intro (fun q => ?_) (fun q => ?_)
          · refine And.intro (rng_of (by omega) (by omega)) ?_
            refine ihy s' hF hT h5 hn (fun hlt => hx9 ?_)
            have : y ≠ fneg f x := fun e => q (by rw [(g3 x y hx hy).mpr e]; rfl)
            omega
          · have e : y = fneg f x := (g3 x y hx hy).mp (by omega)
            refine And.intro (by omega) ?_
            refine And.intro (rng_of (by omega) (by omega)) ?_
            refine ihy (sA s' 9 (mm_upd (s'.2.1 9) (x : Int) (y : Nat))) (FR_A hF rfl) hT h5 (fun x2 hx2 => ?_) (fun _ => ?_)
            · show mm_upd (s'.2.1 9) (x : Int) (y : Nat) (x2 : Int) = _
              unfold mm_upd
              rw [if_neg (by omega)]
              exact hn x2 hx2
            · show mm_upd (s'.2.1 9) (x : Int) (y : Nat) (x : Int) = _
              unfold mm_upd
              rw [if_pos rfl, e]
      have hq := hT.2.2.2.1
      refine hK [160, 171] _ _ _ _ _ _ ?_
      refine And.intro (fun q => absurd q (by omega)) (fun _ => ?_)
      exact loopY 0 (by omega) s' hF hT h5 hn (fun q => by omega)
  -- sums and products
  have loopX : ∀ x : Nat, x ≤ fQ f → ∀ (s' : RS) (o4 : Option MV), RB f s s' → s'.1 5 = (fM f : Nat) → (∀ x2 y2 : Nat, x2 < x → y2 < fQ f → s'.2.1 7 (27 * (x2 : Int) + (y2 : Int)) = (fsum f x2 y2 : Nat) ∧ s'.2.1 8 (27 * (x2 : Int) + (y2 : Int)) = (fprd f x2 y2 : Nat)) → K 64 [some (mR 1000), some (mI (fP f : Nat)), some (mI (fK f : Nat)), some (mI x), o4] [] (hR w s') 0 0 := by
    refine mm_for (fQ f) (fun s' o4 hB h5 ht => ?_) (fun x hx ih s' o4 hB h5 ht => ?_)
    · obtain ⟨hF, q2, q3, q4⟩ := hB
      refine hK [64, 160] _ _ _ _ _ _ ?_
      refine And.intro (fun _ => ?_) (fun q => absurd q (by omega))
      exact loopN 0 (by omega) s' _ hF ⟨hf, q2, q3, q4, fun x y hx hy => (ht x y hx hy).1, fun x y hx hy => (ht x y hx hy).2⟩ h5 (fun x2 hx2 => by omega)
    · have loopY : ∀ y : Nat, y ≤ fQ f → ∀ s' : RS, RB f s s' → s'.1 5 = (fM f : Nat) → (∀ x2 y2 : Nat, x2 ≤ x → y2 < fQ f → (x2 < x ∨ y2 < y) → s'.2.1 7 (27 * (x2 : Int) + (y2 : Int)) = (fsum f x2 y2 : Nat) ∧ s'.2.1 8 (27 * (x2 : Int) + (y2 : Int)) = (fprd f x2 y2 : Nat)) → K 75 [some (mR 1000), some (mI (fP f : Nat)), some (mI (fK f : Nat)), some (mI x), some (mI y)] [] (hR w s') 0 0 := by
        refine mm_for (fQ f) (fun s' hB h5 ht => ?_) (fun y hy ihy s' hB h5 ht => ?_)
        · have hB0 := hB
          obtain ⟨hF, q2, q3, q4⟩ := hB
          refine hK [64, 75] _ _ _ _ _ _ ?_
          refine And.intro (fun _ => ?_) (fun q => absurd q (by omega))
          refine And.intro (rng_of (by omega) (by omega)) ?_
          exact ih s' _ hB0 h5 (fun x2 y2 h1 h3 => ht x2 y2 (by omega) h3 (by omega))
        · obtain ⟨hF, q2, q3, q4⟩ := hB
          have hm : x * y ≤ 27 * 27 := Nat.mul_le_mul (by omega) (by omega)
          have hpost : ∀ s2 : RS, FRB s s2 → s2.1 2 = (fP f : Nat) → s2.1 3 = (fK f : Nat) → s2.1 4 = (fQ f : Nat) → s2.1 5 = (fM f : Nat) → s2.2.1 7 = mm_upd (s'.2.1 7) (27 * (x : Int) + (y : Int)) (fsum f x y : Nat) → s2.2.1 8 = mm_upd (s'.2.1 8) (27 * (x : Int) + (y : Int)) (fprd f x y : Nat) → K 75 [some (mR 1000), some (mI (fP f : Nat)), some (mI (fK f : Nat)), some (mI x), some (mI ((y : Int) + 1))] [] (hR w s2) 0 0 := by
            intro s2 hF2 a2 a3 a4 a5 a7 a8
            refine ihy s2 ⟨hF2, a2, a3, a4⟩ a5 (fun x2 y2 h1 h3 h6 => ?_)
            rw [a7, a8]
            unfold mm_upd
            by_cases q : x2 = x ∧ y2 = y
            · rw [if_pos (by omega), if_pos (by omega), q.1, q.2]
              exact ⟨rfl, rfl⟩
            · rw [if_neg (by omega), if_neg (by omega)]
              exact ht x2 y2 h1 h3 (by omega)
          refine hK [64, 75] _ _ _ _ _ _ ?_
          refine And.intro (fun q => absurd q (by omega)) (fun _ => ?_)
          refine And.intro (rng_of (by omega) (by omega)) ?_
          refine And.intro (rng_of (by omega) (by omega)) ?_
          refine ⟨w, s', f, x, y, rfl, rfl, hf, q2, q3, hx, hy, ?_⟩
          refine And.intro (by omega) ?_
          refine And.intro (rng_of (by omega) (by omega)) ?_
          refine And.intro (rng_of (by omega) (by omega)) ?_
          by_cases hk : fK f = 1
          · refine And.intro (fun q => absurd (show s'.1 3 = 1 by rw [q3, hk]; rfl) q) (fun _ => ?_)
            conv => whnf
            rw [cmul]
            refine And.intro (rng_nat (by omega)) ?_
            conv => whnf
            rw [q2]
            refine And.intro (dv_ok (by omega) (by omega)) ?_
            rw [tmn, rprd1 hf hk hx hy]
            refine And.intro (by omega) ?_
            refine And.intro (rng_of (by omega) (by omega)) ?_
            exact hpost (sA (sA s' 7 (mm_upd (s'.2.1 7) (27 * (x : Int) + (y : Int)) (fsum f x y : Nat))) 8 (mm_upd (s'.2.1 8) (27 * (x : Int) + (y : Int)) (fprd f x y : Nat))) (FR_A (FR_A hF rfl) rfl) q2 q3 q4 h5 rfl rfl
          · refine And.intro (fun _ => ?_) (fun q => absurd (show s'.1 3 = 1 from q) (by rw [q3]; omega))
            refine ⟨w, sA s' 7 (mm_upd (s'.2.1 7) (27 * (x : Int) + (y : Int)) (fsum f x y : Nat)), fP f, fK f, x, y, fM f, by show [mR 1000, mI (x : Int), mI (y : Int), mI (s'.1 5)] = _; rw [h5], rfl, q2, q3, by omega, by omega, by omega, by omega, by omega, by omega, by omega, fun L => ?_⟩
            rw [rmul_prd hf (by omega) hx hy]
            refine And.intro (by omega) ?_
            refine And.intro (rng_of (by omega) (by omega)) ?_
            exact hpost (sA (sA (sA s' 7 (mm_upd (s'.2.1 7) (27 * (x : Int) + (y : Int)) (fsum f x y : Nat))) 13 L) 8 (mm_upd (s'.2.1 8) (27 * (x : Int) + (y : Int)) (fprd f x y : Nat))) (FR_A (FR_A (FR_A hF rfl) rfl) rfl) q2 q3 q4 h5 rfl rfl
      have hB0 := hB
      obtain ⟨hF, q2, q3, q4⟩ := hB
      refine hK [64, 75] _ _ _ _ _ _ ?_
      refine And.intro (fun q => absurd q (by omega)) (fun _ => ?_)
      exact loopY 0 (by omega) s' hB0 h5 (fun x2 y2 h1 h3 h6 => ht x2 y2 (by omega) h3)
  -- the modulus
  have loopM : ∀ m : Nat, m ≤ fM f → ∀ s' : RS, RB f s s' → s'.1 5 = (m : Nat) → K 30 [some (mR 1000), some (mI (fP f : Nat)), some (mI (fK f : Nat)), none, none] [] (hR w s') 0 0 := by
    refine mm_for (fM f) (fun s' hB h5 => ?_) (fun m hm ih s' hB h5 => ?_)
    · have hB0 := hB
      obtain ⟨hF, q2, q3, q4⟩ := hB
      refine hK [30, 64] _ _ _ _ _ _ ?_
      by_cases hk : fK f = 1
      · refine And.intro (fun _ => ?_) (fun q => absurd q (by omega))
        exact loopX 0 (by omega) s' _ hB0 h5 (fun x2 y2 h1 h3 => by omega)
      · obtain ⟨r1, -⟩ := rprime_at hf (by omega)
        refine And.intro (fun q => absurd q (by omega)) (fun _ => ?_)
        refine ⟨w, s', fP f, fK f, fQ f, fM f, by show [mR 1000, mI (s'.1 5)] = _; rw [h5], rfl, q2, q3, q4, by omega, by omega, by omega, by omega, by omega, by omega, by omega, fun L => ?_⟩
        rw [bi_t r1]
        refine And.intro (fun _ => ?_) (fun q => absurd q (by omega))
        exact loopX 0 (by omega) (sA s' 13 L) _ ⟨FR_A hF rfl, q2, q3, q4⟩ h5 (fun x2 y2 h1 h3 => by omega)
    · obtain ⟨hF, q2, q3, q4⟩ := hB
      have hk : fK f ≠ 1 := fun hk => by have := g4 hk; omega
      obtain ⟨-, r2⟩ := rprime_at hf (by omega)
      refine hK [30, 64] _ _ _ _ _ _ ?_
      refine And.intro (fun q => absurd q (by omega)) (fun _ => ?_)
      refine ⟨w, s', fP f, fK f, fQ f, m, by show [mR 1000, mI (s'.1 5)] = _; rw [h5], rfl, q2, q3, q4, by omega, by omega, by omega, by omega, by omega, by omega, by omega, fun L => ?_⟩
      rw [bi_f (by rw [r2 m hm]; decide)]
      refine And.intro (fun q => absurd q (by omega)) (fun _ => ?_)
      have h5' : (sA s' 13 L).1 5 = (m : Nat) := h5
      refine And.intro (rng_of (by omega) (by omega)) ?_
      exact ih (sI (sA s' 13 L) 5 ((sA s' 13 L).1 5 + 1)) ⟨FR_I (FR_A hF rfl) rfl, q2, q3, q4⟩ (by show s'.1 5 + 1 = _; rw [h5]; rfl)
  refine ⟨rfl, hK [30] _ _ _ _ _ _ ?_⟩
  refine ⟨fP f, fK f, rfl, by omega, by omega, ?_⟩
  rw [b7]
  exact loopM 0 (by omega) (sI (sI (sI (sI s 2 (fP f : Nat)) 3 (fK f : Nat)) 4 (fQ f : Nat)) 5 0) ⟨FR_I (FR_I (FR_I (FR_I (FR_rf s) rfl) rfl) rfl) rfl, rfl, rfl, rfl⟩ rfl
theorem m_X10_begin (l : Launch) : mm_Met l yX10_begin cX10_begin 5 (some .int) 4 0 0 T_X10_begin := mm_met (E := e_X10_begin) (cd := kX10_begin) s_X10_begin (by decide) kX10_begin_ok (by decide +kernel) (by decide +kernel) (Or.inr (Or.inl ⟨rfl, rfl⟩)) rfl (mm_eok_X10 _) (mm_calls_cons (mm_cbs wi_X10_powerOf (tb5 (i := 186) rfl rfl) (m_X10_powerOf l) (by decide) (by decide) rfl) (mm_calls_cons (mm_cbv wi_X10_isPrime (tb5 (i := 189) rfl rfl) (m_X10_isPrime l) (by decide) (by decide) rfl) (mm_calls_cons (mm_cbv wi_X10_addDigits (tb5 (i := 201) rfl rfl) (m_X10_addDigits l) (by decide) (by decide) rfl) (mm_calls_cons (mm_cbv wi_X10_multiplyBy (tb5 (i := 193) rfl rfl) (m_X10_multiplyBy l) (by decide) (by decide) rfl) (mm_calls_cons (mm_cbv wi_X10_sumOf (tb5 (i := 205) rfl rfl) (m_X10_sumOf l) (by decide) (by decide) rfl) (mm_calls_cons (mm_cbv wi_X10_orderOf (tb5 (i := 209) rfl rfl) (m_X10_orderOf l) (by decide) (by decide) rfl) (mm_calls_cons (mm_cbv wi_X10_productOf (tb5 (i := 213) rfl rfl) (m_X10_productOf l) (by decide) (by decide) rfl) (mm_calls_cons (mm_cbv wi_X10_traceOf (tb5 (i := 217) rfl rfl) (m_X10_traceOf l) (by decide) (by decide) rfl) (mm_calls_cons (mm_cbv wi_X10_layRoot (tb5 (i := 225) rfl rfl) (m_X10_layRoot l) (by decide) (by decide) rfl) (mm_calls_cons (mm_cbv wi_X10_clear (tb5 (i := 234) rfl rfl) (m_X10_clear l) (by decide) (by decide) rfl) (mm_calls_nil)))))))))))
