/-! the component's ring: what is gathered -/
def mvB (f a : Nat) : Bool := Nat.beq (Nat.gcd a (fN f)) 1
def tL (f : Nat) : List Nat := (List.range (fD f)).filter (fun j => !(decide (fphi f j = 0)))
def CG (f : Nat) (c : CS) : Prop := f < 15 ∧ c.1 6 = (fN f : Nat) ∧ c.1 7 = (fD f : Nat) ∧ c.1 8 = (fN f / 2 : Nat) ∧ (∀ a : Nat, a < fN f → c.2.1 11 (a : Int) = (ind (mvB f a) : Nat)) ∧ c.1 9 = ((tL f).length : Nat) ∧ ∀ i : Nat, i < (tL f).length → c.2.1 13 (i : Int) = ((tL f).getD i 0 : Nat) ∧ c.2.1 14 (i : Int) = fphi f ((tL f).getD i 0)
theorem CG_fr {f : Nat} {I A L : List Nat} {c c' : CS} (h : CG f c) (hF : FC I A L c c') (hI : [6, 7, 8, 9].all (fun j => !(mm_mem j I)) = true) (hA : [11, 13, 14].all (fun j => !(mm_mem j A)) = true) : CG f c' := by
  simp only [List.all_cons, List.all_nil, Bool.and_eq_true, Bool.not_eq_true'] at hI hA
  obtain ⟨i6, i7, i8, i9, -⟩ := hI
  obtain ⟨a11, a13, a14, -⟩ := hA
  obtain ⟨h0, h1, h2, h3, h4, h5, h6⟩ := h
  refine ⟨h0, (hF.1 6 i6).trans h1, (hF.1 7 i7).trans h2, (hF.1 8 i8).trans h3, ?_, (hF.1 9 i9).trans h5, ?_⟩
  · rw [hF.2.1 11 a11]; exact h4
  · rw [hF.2.1 13 a13, hF.2.1 14 a14]; exact h6
theorem CG_L {f : Nat} {c : CS} {G : Int → Int64} (h : CG f c) : CG f (kL c 12 G) := h
def gV (f : Nat) (G : Int → Int64) (t : Nat) : Int64 := cV f (fun e => G (e : Int)) (fN f / 2) t
def rowV (c : CS) (r : Nat) : Nat → Int64 := fun t => Int64.ofInt (c.2.2.2.1 r (t : Int))
def rsm (f : Nat) (c : CS) (r : Nat) : Prop := ∀ t : Nat, t < fD f → -1000000 ≤ c.2.2.2.1 r (t : Int) ∧ c.2.2.2.1 r (t : Int) ≤ 1000000
theorem halfb {f : Nat} (hf : f < 15) : 2 * (fN f / 2) = fN f ∧ fD f ≤ fN f / 2 ∧ 1 ≤ fD f ∧ fN f ≤ 506 := by
  have h := half_at hf
  have hb := fbase hf
  exact ⟨h.1, h.2.1, hb.2.2.2.2.2.2.2.2.2.1, hb.2.2.2.2.2.2.2.2.1⟩
def T_X4_moves : Tr := fun av h N _ => ∃ (w : CW) (c : CS) (f : Nat) (a : Int), av = [mR 10, mI a] ∧ h = hC w c ∧ CG f c ∧ N (some (mI (bi (okM f a)))) h
abbrev e_X4_moves : NE := (ftX4, [], ltX4, [], [], false, 2, (0, 0), [], [], [], true)
theorem mvB_iff {f a : Nat} : mvB f a = true ↔ Nat.gcd a (fN f) = 1 := ⟨fun h => Nat.eq_of_beq_eq_true h, fun h => by unfold mvB; rw [h]; rfl⟩
theorem s_X4_moves : mm_Spec e_X4_moves kX4_moves 2 T_X4_moves := by
  rintro N X K av h hK ⟨w, c, f, a, rfl, rfl, hG, h2⟩
  have hb := halfb hG.1
  refine ⟨rfl, hK [] _ _ _ _ _ _ ?_⟩
  refine And.intro (fun q => ?_) (fun q => ?_)
  · rw [bi_f (fun z => by omega)] at h2
    exact And.intro (Or.inl rfl) h2
  conv => whnf
  rw [hG.2.1]
  refine And.intro (fun q2 => ?_) (fun q2 => ?_)
  · rw [bi_f (fun z => by omega)] at h2
    exact And.intro (Or.inl rfl) h2
  obtain ⟨m, rfl⟩ := Int.eq_ofNat_of_zero_le q
  refine And.intro (by omega) ?_
  conv => whnf
  rw [hG.2.2.2.2.1 m (by omega)]
  refine And.intro (fun q3 => ?_) (fun q3 => ?_)
  · have q3 := ind_e0 q3
    rw [bi_f (fun z => by rw [mvB_iff.mpr (show Nat.gcd m (fN f) = 1 from z.2.2)] at q3; cases q3)] at h2
    exact And.intro (Or.inl rfl) h2
  · have q3 := ind_n0 q3
    rw [bi_t ⟨q, q2, mvB_iff.mp q3⟩] at h2
    exact And.intro (Or.inr rfl) h2
theorem m_X4_moves (l : Launch) : mm_Met l yX4_moves cX4_moves 2 (some .boolean) 0 0 0 T_X4_moves := mm_met (E := e_X4_moves) (cd := kX4_moves) s_X4_moves (by decide) kX4_moves_ok (by decide +kernel) (by decide +kernel) (Or.inr (Or.inr (Or.inl ⟨rfl, rfl⟩))) rfl (mm_eok_X4 _) (mm_calls_nil)
def T_X4_clear : Tr := fun av h N _ => ∃ (w : CW) (c : CS), av = [mR 10] ∧ h = hC w c ∧ ∀ G : Int → Int64, (∀ i : Int, G i = if 0 ≤ i ∧ i < 253 then 0 else c.2.2.1 12 i) → N none (hC w (kL c 12 G))
abbrev e_X4_clear : NE := (ftX4, [(42, (2, 0, 0, false, (1, 0), T_J7_fill_d0a16))], ltX4, [], [], false, 0, (0, 0), [], [], [], true)
theorem s_X4_clear : mm_Spec e_X4_clear kX4_clear 1 T_X4_clear := by
  rintro N X K av h hK ⟨w, c, rfl, rfl, h2⟩
  refine ⟨rfl, hK [] _ _ _ _ _ _ ?_⟩
  exact ⟨w, c, 0, rfl, Or.inl ⟨rfl, fun b hb => h2 b hb⟩⟩
theorem m_X4_clear (l : Launch) : mm_Met l yX4_clear cX4_clear 1 none 1 0 0 T_X4_clear := mm_met (E := e_X4_clear) (cd := kX4_clear) s_X4_clear (by decide) kX4_clear_ok (by decide +kernel) (by decide +kernel) (Or.inl ⟨rfl, rfl⟩) rfl (mm_eok_X4 _) (mm_calls_cons (mm_cbs wi_J7_fill_d0a16 (tb2 (i := 134) rfl rfl) (m_J7_fill_d0a16 l) (by decide) (by decide) rfl) (mm_calls_nil))
theorem gV_0 {f t : Nat} {G : Int → Int64} (hf : f < 15) (h : ∀ i : Int, 0 ≤ i → i < 253 → G i = 0) : gV f G t = 0 := by
  have hb := halfb hf
  exact cV_zero (fun e he => h e (by omega) (by omega))
theorem gV_upd {f t j : Nat} {G : Int → Int64} {b : Int64} (hj : j < fN f / 2) : gV f (mm_updL G (j : Int) (G (j : Int) + b)) t = gV f G t + b * rho f j t := cV_upd' hj
theorem gV_sub {f t j : Nat} {G : Int → Int64} {b : Int64} (hf : f < 15) (ht : t < fD f) (hj : j < fN f / 2) : gV f (mm_updL G (j : Int) (G (j : Int) - b)) t = gV f G t + b * rho f (j + fN f / 2) t := by
  have h := gV_upd (f := f) (t := t) (j := j) (G := G) (b := -b) hj
  rw [← Int64.sub_eq_add_neg] at h
  rw [h, rho_half hf ht]
  grind
def T_X4_add : Tr := fun av h N _ => ∃ (w : CW) (c : CS) (f : Nat) (b : Int64) (e : Nat), av = [mR 10, mL b, mI e] ∧ h = hC w c ∧ CG f c ∧ e < 2147483648 ∧ ∀ G : Int → Int64, (∀ t, t < fD f → gV f G t = gV f (c.2.2.1 12) t + b * rho f (e % fN f) t) → N none (hC w (kL c 12 G))
abbrev e_X4_add : NE := (ftX4, [], ltX4, [], [], false, 0, (0, 0), [], [], [], true)
theorem s_X4_add : mm_Spec e_X4_add kX4_add 5 T_X4_add := by
  rintro N X K av h hK ⟨w, c, f, b, e, rfl, rfl, hG, he, h2⟩
  have hb := halfb hG.1
  have hm := Nat.mod_lt e (show 0 < fN f by omega)
  refine ⟨rfl, hK [] _ _ _ _ _ _ ?_⟩
  conv => whnf
  rw [hG.2.1]
  refine And.intro (dv_ok (by omega) he) ?_
  rw [tmn]
  conv => whnf
  rw [hG.2.2.2.1]
  refine And.intro (fun q => ?_) (fun q => ?_)
  · conv => whnf
    rw [hG.2.2.2.1, show ((e % fN f : Nat) : Int) - ((fN f / 2 : Nat) : Int) = ((e % fN f - fN f / 2 : Nat) : Int) by omega]
    refine And.intro (rng_nat (by omega)) ?_
    refine And.intro (by omega) ?_
    refine And.intro (by omega) ?_
    refine h2 _ (fun t ht => ?_)
    have h3 := gV_sub (f := f) (t := t) (j := e % fN f - fN f / 2) (G := c.2.2.1 12) (b := b) hG.1 ht (by omega)
    rw [show e % fN f - fN f / 2 + fN f / 2 = e % fN f by omega] at h3
    exact h3
  · refine And.intro (by omega) ?_
    refine And.intro (by omega) ?_
    exact h2 _ (fun t ht => gV_upd (f := f) (t := t) (j := e % fN f) (G := c.2.2.1 12) (b := b) (by omega))
theorem m_X4_add (l : Launch) : mm_Met l yX4_add cX4_add 5 none 0 0 0 T_X4_add := mm_met (E := e_X4_add) (cd := kX4_add) s_X4_add (by decide) kX4_add_ok (by decide +kernel) (by decide +kernel) (Or.inl ⟨rfl, rfl⟩) rfl (mm_eok_X4 _) (mm_calls_nil)
/-- nothing but what is gathered changes -/
theorem kL_kL (c : CS) (G G' : Int → Int64) : kL (kL c 12 G) 12 G' = kL c 12 G' := by
  have h : fu (fu c.2.2.1 12 G) 12 G' = fu c.2.2.1 12 G' := by
    funext i
    unfold fu
    cases Nat.beq i 12 <;> rfl
  unfold kL
  rw [h]
theorem kL_at (c : CS) (G : Int → Int64) : (kL c 12 G).2.2.1 12 = G := rfl
theorem kL_self (c : CS) : kL c 12 (c.2.2.1 12) = c := by
  have h : fu c.2.2.1 12 (c.2.2.1 12) = c.2.2.1 := by
    funext i
    unfold fu
    cases hb : Nat.beq i 12 with
    | true => rw [Nat.eq_of_beq_eq_true hb]
    | false => rfl
  unfold kL
  rw [h]
def T_X4_addValue : Tr := fun av h N _ => ∃ (w : CW) (c : CS) (f r : Nat) (x : Int), av = [mR 10, mQ r, mI x] ∧ h = hC w c ∧ CG f c ∧ r < 24 ∧ ∀ G : Int → Int64, (∀ t, t < fD f → gV f G t = gV f (c.2.2.1 12) t + rowV c r t * Int64.ofInt x) → N none (hC w (kL c 12 G))
abbrev e_X4_addValue : NE := (ftX4, [], ltX4, [], [], false, 0, (0, 0), [], [], [], true)
theorem s_X4_addValue : mm_Spec e_X4_addValue kX4_addValue 4 T_X4_addValue := by
  rintro N X K av h hK ⟨w, c, f, r, x, rfl, rfl, hG, hr, h2⟩
  have hb := halfb hG.1
  have hd : ∀ G : Int → Int64, (kL c 12 G).1 7 = (fD f : Int) := fun _ => hG.2.2.1
  have hd220 : fD f ≤ 220 := (fbase hG.1).2.2.2.2.2.2.2.2.2.2.1
  have loop : ∀ i : Nat, i ≤ fD f → ∀ G : Int → Int64, (∀ t, t < fD f → gV f G t = gV f (c.2.2.1 12) t + (if t < i then rowV c r t * Int64.ofInt x else 0)) → K 2 [some (mR 10), some (mQ r), some (mI x), some (mI i)] [] (hC w (kL c 12 G)) 0 0 := by
    refine mm_for (fD f) (fun G hg => ?_) (fun i hi ih G hg => ?_)
    · refine hK [] _ _ _ _ _ _ ?_
      conv => whnf
      rw [hd]
      refine And.intro (fun _ => ?_) (fun q => absurd q (by omega))
      exact h2 G (fun t ht => by rw [hg t ht, if_pos ht])
    · refine hK [2] _ _ _ _ _ _ ?_
      conv => whnf
      rw [hd]
      refine And.intro (fun q => absurd q (by omega)) (fun _ => ?_)
      refine And.intro (by omega) ?_
      refine And.intro ⟨hr, by omega, by omega⟩ ?_
      refine And.intro (by omega) ?_
      refine And.intro (rng_of (by omega) (by omega)) ?_
      refine ih (mm_updL G (i : Int) (G (i : Int) + rowV c r i * Int64.ofInt x)) (fun t ht => ?_)
      rw [gV_upd (f := f) (t := t) (by omega), hg t ht, rho_low hG.1 hi ht]
      by_cases q : t = i
      · subst q
        rw [if_neg (by omega), if_pos rfl, if_pos (by omega)]
        simp
      · rw [if_neg q]
        by_cases q2 : t < i
        · rw [if_pos q2, if_pos (by omega)]; simp
        · rw [if_neg q2, if_neg (by omega)]; simp
  refine ⟨rfl, hK [2] _ _ _ _ _ _ ?_⟩
  have h3 := loop 0 (by omega) (c.2.2.1 12) (fun t ht => by rw [if_neg (by omega)]; simp)
  rw [kL_self] at h3
  exact h3
theorem m_X4_addValue (l : Launch) : mm_Met l yX4_addValue cX4_addValue 4 none 0 0 0 T_X4_addValue := mm_met (E := e_X4_addValue) (cd := kX4_addValue) s_X4_addValue (by decide) kX4_addValue_ok (by decide +kernel) (by decide +kernel) (Or.inl ⟨rfl, rfl⟩) rfl (mm_eok_X4 _) (mm_calls_nil)
def mvP (f : Nat) (x : Nat → Int64) (a t : Nat) (n : Nat) : Int64 := sumL (fun i => x i * rho f (i * a % fN f) t) n
def T_X4_addMoved : Tr := fun av h N _ => ∃ (w : CW) (c : CS) (f r a : Nat), av = [mR 10, mQ r, mI a] ∧ h = hC w c ∧ CG f c ∧ r < 24 ∧ a ≤ 506 ∧ ∀ G : Int → Int64, (∀ t, t < fD f → gV f G t = gV f (c.2.2.1 12) t + mvV f (rowV c r) a t) → N none (hC w (kL c 12 G))
abbrev e_X4_addMoved : NE := (ftX4, [(62, (3, 0, 0, false, (0, 4), T_X4_add))], ltX4, [], [], false, 0, (0, 0), [], [], [], true)
theorem s_X4_addMoved : mm_Spec e_X4_addMoved kX4_addMoved 4 T_X4_addMoved := by
  rintro N X K av h hK ⟨w, c, f, r, a, rfl, rfl, hG, hr, ha, h2⟩
  have hb := halfb hG.1
  have hd : ∀ G : Int → Int64, (kL c 12 G).1 7 = (fD f : Int) := fun _ => hG.2.2.1
  have hd220 : fD f ≤ 220 := (fbase hG.1).2.2.2.2.2.2.2.2.2.2.1
  have loop : ∀ i : Nat, i ≤ fD f → ∀ G : Int → Int64, (∀ t, t < fD f → gV f G t = gV f (c.2.2.1 12) t + mvP f (rowV c r) a t i) → K 2 [some (mR 10), some (mQ r), some (mI a), some (mI i)] [] (hC w (kL c 12 G)) 0 0 := by
    refine mm_for (fD f) (fun G hg => ?_) (fun i hi ih G hg => ?_)
    · refine hK [] _ _ _ _ _ _ ?_
      conv => whnf
      rw [hd]
      refine And.intro (fun _ => ?_) (fun q => absurd q (by omega))
      exact h2 G hg
    · have hia : i * a ≤ 220 * 506 := Nat.mul_le_mul (by omega) ha
      have step : ∀ t, mvP f (rowV c r) a t (i + 1) = mvP f (rowV c r) a t i + rowV c r i * rho f (i * a % fN f) t := fun _ => rfl
      refine hK [2] _ _ _ _ _ _ ?_
      conv => whnf
      rw [hd]
      refine And.intro (fun q => absurd q (by omega)) (fun _ => ?_)
      refine And.intro ⟨hr, by omega, by omega⟩ ?_
      refine And.intro (fun q => ?_) (fun q => ?_)
      · refine And.intro (rng_of (by omega) (by omega)) ?_
        refine ih G (fun t ht => ?_)
        rw [hg t ht, step, show rowV c r i = 0 by show Int64.ofInt (c.2.2.2.1 r (i : Int)) = 0; rw [show c.2.2.2.1 r (i : Int) = 0 from q]; rfl]
        simp
      · refine And.intro ⟨hr, by omega, by omega⟩ ?_
        conv => whnf
        rw [cmul]
        refine And.intro (rng_nat (by omega)) ?_
        refine ⟨w, kL c 12 G, f, rowV c r i, i * a, rfl, rfl, hG, by omega, fun G2 hg2 => ?_⟩
        refine And.intro (rng_of (by omega) (by omega)) ?_
        have h3 := ih G2 (fun t ht => by rw [hg2 t ht, kL_at, hg t ht, step, Int64.add_assoc])
        rw [← kL_kL c G G2] at h3
        exact h3
  refine ⟨rfl, hK [2] _ _ _ _ _ _ ?_⟩
  have h3 := loop 0 (by omega) (c.2.2.1 12) (fun t ht => by show _ = _ + (0 : Int64); simp)
  rw [kL_self] at h3
  exact h3
theorem m_X4_addMoved (l : Launch) : mm_Met l yX4_addMoved cX4_addMoved 4 none 1 0 0 T_X4_addMoved := mm_met (E := e_X4_addMoved) (cd := kX4_addMoved) s_X4_addMoved (by decide) kX4_addMoved_ok (by decide +kernel) (by decide +kernel) (Or.inl ⟨rfl, rfl⟩) rfl (mm_eok_X4 _) (mm_calls_cons (mm_cbv wi_X4_add (tb3 (i := 60) rfl rfl) (m_X4_add l) (by decide) (by decide) rfl) (mm_calls_nil))
def T_X4_move : Tr := fun av h N _ => ∃ (w : CW) (c : CS) (f r a : Nat), av = [mR 10, mQ r, mI a] ∧ h = hC w c ∧ CG f c ∧ r < 24 ∧ a ≤ 506 ∧ ∀ G : Int → Int64, (∀ t, t < fD f → gV f G t = mvV f (rowV c r) a t) → N none (hC w (kL c 12 G))
abbrev e_X4_move : NE := (ftX4, [(51, (1, 0, 0, false, (0, 4), T_X4_clear)), (58, (3, 0, 0, false, (0, 4), T_X4_addMoved))], ltX4, [], [], false, 0, (0, 0), [], [], [], true)
theorem s_X4_move : mm_Spec e_X4_move kX4_move 3 T_X4_move := by
  rintro N X K av h hK ⟨w, c, f, r, a, rfl, rfl, hG, hr, ha, h2⟩
  refine ⟨rfl, hK [] _ _ _ _ _ _ ?_⟩
  refine ⟨w, c, rfl, rfl, fun G hg => ?_⟩
  refine ⟨w, kL c 12 G, f, r, a, rfl, rfl, hG, hr, ha, fun G2 hg2 => ?_⟩
  rw [kL_kL]
  refine h2 G2 (fun t ht => ?_)
  rw [hg2 t ht, kL_at, gV_0 hG.1 (fun i h1 h3 => by rw [hg, if_pos ⟨h1, h3⟩])]
  exact Int64.zero_add _
theorem m_X4_move (l : Launch) : mm_Met l yX4_move cX4_move 3 none 2 0 0 T_X4_move := mm_met (E := e_X4_move) (cd := kX4_move) s_X4_move (by decide) kX4_move_ok (by decide +kernel) (by decide +kernel) (Or.inl ⟨rfl, rfl⟩) rfl (mm_eok_X4 _) (mm_calls_cons (mm_cbv wi_X4_clear (tb2 (i := 130) rfl rfl) (m_X4_clear l) (by decide) (by decide) rfl) (mm_calls_cons (mm_cbv wi_X4_addMoved (tb3 (i := 56) rfl rfl) (m_X4_addMoved l) (by decide) (by decide) rfl) (mm_calls_nil)))
def moP (f a t n : Nat) : Int64 := sumL (fun m => tv f (movT f a m) t) n
def T_X4_moveRoot : Tr := fun av h N _ => ∃ (w : CW) (c : CS) (f e : Nat), av = [mR 10, mI e] ∧ h = hC w c ∧ CG f c ∧ e ≤ 506 ∧ ∀ G : Int → Int64, (∀ t, t < fD f → gV f G t = movV f e t) → N none (hC w (kL c 12 G))
abbrev e_X4_moveRoot : NE := (ftX4, [(51, (1, 0, 0, false, (0, 4), T_X4_clear)), (62, (3, 0, 0, false, (0, 4), T_X4_add))], ltX4, [], [], false, 0, (0, 0), [], [], [], true)
theorem s_X4_moveRoot : mm_Spec e_X4_moveRoot kX4_moveRoot 3 T_X4_moveRoot := by
  rintro N X K av h hK ⟨w, c, f, e, rfl, rfl, hG, he, h2⟩
  have hb := halfb hG.1
  have hn : ∀ G : Int → Int64, (kL c 12 G).1 6 = (fN f : Int) := fun _ => hG.2.1
  have loop : ∀ i : Nat, i ≤ fN f → ∀ G : Int → Int64, (∀ t, t < fD f → gV f G t = moP f e t i) → K 6 [some (mR 10), some (mI e), some (mI i)] [] (hC w (kL c 12 G)) 0 0 := by
    refine mm_for (fN f) (fun G hg => ?_) (fun i hi ih G hg => ?_)
    · refine hK [] _ _ _ _ _ _ ?_
      conv => whnf
      rw [hn]
      refine And.intro (fun _ => ?_) (fun q => absurd q (by omega))
      exact h2 G hg
    · have hia : i * e ≤ 506 * 506 := Nat.mul_le_mul (by omega) he
      have step : ∀ t, moP f e t (i + 1) = moP f e t i + tv f (movT f e i) t := fun _ => rfl
      refine hK [6] _ _ _ _ _ _ ?_
      conv => whnf
      rw [hn]
      refine And.intro (fun q => absurd q (by omega)) (fun _ => ?_)
      refine And.intro (by omega) ?_
      conv => whnf
      rw [show (kL c 12 G).2.1 11 (i : Int) = _ from hG.2.2.2.2.1 i hi]
      refine And.intro (fun q => ?_) (fun q => ?_)
      · have q := ind_e0 q
        refine And.intro (rng_of (by omega) (by omega)) ?_
        refine ih G (fun t ht => ?_)
        rw [hg t ht, step]
        unfold movT
        rw [if_neg (fun z => by rw [mvB_iff.mpr z] at q; cases q)]
        exact (Int64.add_zero _).symm
      · have q := mvB_iff.mp (ind_n0 q)
        conv => whnf
        rw [cmul]
        refine And.intro (rng_nat (by omega)) ?_
        refine ⟨w, kL c 12 G, f, 1, i * e, rfl, rfl, hG, by omega, fun G2 hg2 => ?_⟩
        refine And.intro (rng_of (by omega) (by omega)) ?_
        have h3 := ih G2 (fun t ht => by
          rw [hg2 t ht, kL_at, hg t ht, step]
          unfold movT
          rw [if_pos q]
          rfl)
        rw [← kL_kL c G G2] at h3
        exact h3
  refine ⟨rfl, hK [6] _ _ _ _ _ _ ?_⟩
  refine ⟨w, c, rfl, rfl, fun G hg => ?_⟩
  exact loop 0 (by omega) G (fun t ht => gV_0 hG.1 (fun i h1 h3 => by rw [hg, if_pos ⟨h1, h3⟩]))
theorem m_X4_moveRoot (l : Launch) : mm_Met l yX4_moveRoot cX4_moveRoot 3 none 2 0 0 T_X4_moveRoot := mm_met (E := e_X4_moveRoot) (cd := kX4_moveRoot) s_X4_moveRoot (by decide) kX4_moveRoot_ok (by decide +kernel) (by decide +kernel) (Or.inl ⟨rfl, rfl⟩) rfl (mm_eok_X4 _) (mm_calls_cons (mm_cbv wi_X4_clear (tb2 (i := 130) rfl rfl) (m_X4_clear l) (by decide) (by decide) rfl) (mm_calls_cons (mm_cbv wi_X4_add (tb3 (i := 60) rfl rfl) (m_X4_add l) (by decide) (by decide) rfl) (mm_calls_nil)))
