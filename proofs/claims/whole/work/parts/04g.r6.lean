/-! the reference: sums, products, movings, sums over elements -/
theorem fu_ne {α : Type} {g : Nat → α} {k j : Nat} {v : α} (h : j ≠ k) : fu g k v j = g j := by
  unfold fu
  split
  · rename_i hq; exact absurd (Nat.eq_of_beq_eq_true hq) h
  · rfl
/-- the field's tables all stand -/
def RA (f : Nat) (s : RS) : Prop := RT f s ∧ RQ f s ∧ (∀ x : Nat, x < fQ f → s.2.1 9 (x : Int) = (fneg f x : Nat)) ∧ (∀ x : Nat, 1 ≤ x → x < fQ f → s.2.1 10 (x : Int) = (flog f x : Nat)) ∧ ∀ x : Nat, x < fQ f → s.2.1 12 (x : Int) = (ftr f x : Nat)
theorem slotS_congr {f a : Nat} {V V' : Nat → Int64} {old v : Int → Int64} (h : ∀ t, t < fD f → V t = V' t) (hs : slotS f a V old v) : slotS f a V' old v := by
  intro i
  rw [hs i]
  by_cases q : 256 * (a : Int) ≤ i ∧ i < 256 * (a : Int) + 256
  · rw [if_pos q, if_pos q]
    by_cases q2 : i < 256 * (a : Int) + fD f
    · rw [if_pos q2, if_pos q2]
      exact h _ (by omega)
    · rw [if_neg q2, if_neg q2]
  · rw [if_neg q, if_neg q]
theorem small_congr {f : Nat} {V V' : Nat → Int64} (h : ∀ t, t < fD f → V t = V' t) : bi (small f V) = bi (small f V') :=
  bi_iff ⟨fun q t ht => by rw [← h t ht]; exact q t ht, fun q t ht => by rw [h t ht]; exact q t ht⟩
/-- slot a gets V; rest and counts are anything -/
def gPost (w : FW) (s : RS) (f a : Nat) (V : Nat → Int64) (N : Option MV → HP → Prop) : Prop := ∀ L : Nat → Int → Int64, (∀ k, k ≠ 18 → k ≠ 24 → k ≠ 25 → L k = s.2.2 k) → slotS f a V (s.2.2 24) (L 24) → N (some (mI (bi (small f V)))) (hR w (s.1, s.2.1, L))
theorem gPost_fin {w : FW} {s : RS} {f a : Nat} {V : Nat → Int64} {N : Option MV → HP → Prop} {c r v : Int → Int64} (hN : gPost w s f a V N) (hV : ∀ t, t < fD f → cV f (fun e => c (e : Int)) (fN f) t = V t) (hv : slotS f a (cW f (sL s 25 c)) (s.2.2 24) v) : N (some (mI (bi (small f (cW f (sL s 25 c)))))) (hR w (sL (sL (sL s 25 c) 18 r) 24 v)) := by
  rw [show bi (small f (cW f (sL s 25 c))) = bi (small f V) from small_congr hV]
  exact hN (fu (fu (fu s.2.2 25 c) 18 r) 24 v) (fun k h1 h2 h3 => by rw [fu_ne h2, fu_ne h1, fu_ne h3]) (slotS_congr hV hv)
theorem RQ_25 {f : Nat} {s : RS} {c : Int → Int64} (h : RQ f s) : RQ f (sL s 25 c) := h
def T_X10_filled : Tr := fun av h N _ => ∃ (w : FW) (s : RS) (f a : Nat), av = [mR 1000, mI a] ∧ h = hR w s ∧ RQ f s ∧ a ≤ 34 ∧ N (some (mI (nzc (fun t => s.2.2 24 (256 * (a : Int) + t)) (fD f) : Nat))) h
abbrev e_X10_filled : NE := (ftX10, [(184, (2, 0, 0, false, (1, 0), T_X10_cell))], ltX10, [], [], false, 1, (0, 0), [], [], [], false)
theorem s_X10_filled : mm_Spec e_X10_filled kX10_filled 4 T_X10_filled := by
  rintro N X K av h hK ⟨w, s, f, a, rfl, rfl, hQ, ha, h2⟩
  obtain ⟨hf, hn, hd, hroot⟩ := hQ
  obtain ⟨b1, b2, b3, b4, b5, b6, b7, b8, b9, b10, b11, b12⟩ := fbase hf
  have loop : ∀ i : Nat, i ≤ fD f → K 4 [some (mR 1000), some (mI a), some (mI (nzc (fun t => s.2.2 24 (256 * (a : Int) + t)) i : Nat)), some (mI i)] [] (hR w s) 0 0 := by
    refine mm_for (fD f) ?_ (fun i hi ih => ?_)
    · refine hK [4] _ _ _ _ _ _ ?_
      conv => whnf
      rw [hd]
      exact And.intro (fun _ => h2) (fun q => absurd q (by omega))
    · have hle := nzc_le (fun t => s.2.2 24 (256 * (a : Int) + t)) i
      have hz : nzc (fun t => s.2.2 24 (256 * (a : Int) + t)) (i + 1) = nzc (fun t => s.2.2 24 (256 * (a : Int) + t)) i + (if s.2.2 24 (256 * (a : Int) + i) = 0 then 0 else 1) := rfl
      rw [hz] at ih
      refine hK [4] _ _ _ _ _ _ ?_
      conv => whnf
      rw [hd]
      refine And.intro (fun q => absurd q (by omega)) (fun _ => ?_)
      refine ⟨a, i, rfl, by omega, by omega, by omega, by omega, ?_⟩
      refine And.intro (by omega) ?_
      refine And.intro (fun q => ?_) (fun q => ?_)
      · have e : s.2.2 24 (256 * (a : Int) + i) = 0 := ((cmp_eq _ _).mp q).trans lc0
        rw [if_pos e] at ih
        refine And.intro (rng_of (by omega) (by omega)) ?_
        refine And.intro (rng_of (by omega) (by omega)) ?_
        conv => whnf
        rw [Int.add_zero]
        exact ih
      · have e : ¬ s.2.2 24 (256 * (a : Int) + i) = 0 := fun z => q ((cmp_eq _ _).mpr (z.trans lc0.symm))
        rw [if_neg e] at ih
        refine And.intro (rng_of (by omega) (by omega)) ?_
        refine And.intro (rng_of (by omega) (by omega)) ?_
        exact ih
  refine ⟨rfl, hK [4] _ _ _ _ _ _ ?_⟩
  exact loop 0 (by omega)
theorem m_X10_filled (l : Launch) : mm_Met l yX10_filled cX10_filled 4 (some .int) 1 0 0 T_X10_filled := mm_met (E := e_X10_filled) (cd := kX10_filled) s_X10_filled (by decide) kX10_filled_ok (by decide +kernel) (by decide +kernel) (Or.inr (Or.inl ⟨rfl, rfl⟩)) rfl (mm_eok_X10 _) (mm_calls_cons (mm_cbs wi_X10_cell (tb5 (i := 238) rfl rfl) (m_X10_cell l) (by decide) (by decide) rfl) (mm_calls_nil))
def T_X10_isSame : Tr := fun av h N _ => ∃ (w : FW) (s : RS) (f a b : Nat), av = [mR 1000, mI a, mI b] ∧ h = hR w s ∧ RQ f s ∧ a ≤ 34 ∧ b ≤ 34 ∧ N (some (mI (bi (sameV f (fun t => s.2.2 24 (256 * (a : Int) + t)) (fun t => s.2.2 24 (256 * (b : Int) + t)))))) h
abbrev e_X10_isSame : NE := (ftX10, [(184, (2, 0, 0, false, (1, 0), T_X10_cell))], ltX10, [], [], false, 2, (0, 0), [], [], [], false)
theorem s_X10_isSame : mm_Spec e_X10_isSame kX10_isSame 4 T_X10_isSame := by
  rintro N X K av h hK ⟨w, s, f, a, b, rfl, rfl, hQ, ha, hb, h2⟩
  obtain ⟨hf, hn, hd, hroot⟩ := hQ
  obtain ⟨b1, b2, b3, b4, b5, b6, b7, b8, b9, b10, b11, b12⟩ := fbase hf
  have loop : ∀ i : Nat, i ≤ fD f → (∀ t : Nat, t < i → s.2.2 24 (256 * (a : Int) + t) = s.2.2 24 (256 * (b : Int) + t)) → K 2 [some (mR 1000), some (mI a), some (mI b), some (mI i)] [] (hR w s) 0 0 := by
    refine mm_for (fD f) (fun hall => ?_) (fun i hi ih hall => ?_)
    · refine hK [2] _ _ _ _ _ _ ?_
      conv => whnf
      rw [hd]
      refine And.intro (fun _ => ?_) (fun q => absurd q (by omega))
      rw [bi_t hall] at h2
      exact And.intro (Or.inr rfl) h2
    · refine hK [2] _ _ _ _ _ _ ?_
      conv => whnf
      rw [hd]
      refine And.intro (fun q => absurd q (by omega)) (fun _ => ?_)
      refine ⟨a, i, rfl, by omega, by omega, by omega, by omega, ?_⟩
      refine And.intro (by omega) ?_
      refine ⟨b, i, rfl, by omega, by omega, by omega, by omega, ?_⟩
      refine And.intro (by omega) ?_
      refine And.intro (fun q => ?_) (fun q => ?_)
      · have e := (cmp_eq _ _).mp q
        refine And.intro (rng_of (by omega) (by omega)) ?_
        refine ih (fun t ht => ?_)
        by_cases z : t = i
        · rw [z]; exact e
        · exact hall t (by omega)
      · rw [bi_f (fun hall2 => q ((cmp_eq _ _).mpr (hall2 i hi)))] at h2
        exact And.intro (Or.inl rfl) h2
  refine ⟨rfl, hK [2] _ _ _ _ _ _ ?_⟩
  exact loop 0 (by omega) (fun t ht => by omega)
theorem m_X10_isSame (l : Launch) : mm_Met l yX10_isSame cX10_isSame 4 (some .boolean) 1 0 0 T_X10_isSame := mm_met (E := e_X10_isSame) (cd := kX10_isSame) s_X10_isSame (by decide) kX10_isSame_ok (by decide +kernel) (by decide +kernel) (Or.inr (Or.inr (Or.inl ⟨rfl, rfl⟩))) rfl (mm_eok_X10 _) (mm_calls_cons (mm_cbs wi_X10_cell (tb5 (i := 238) rfl rfl) (m_X10_cell l) (by decide) (by decide) rfl) (mm_calls_nil))
def T_X10_sum : Tr := fun av h N _ => ∃ (w : FW) (s : RS) (f o a b : Nat) (sg : Int64), av = [mR 1000, mI o, mI a, mI b, mL sg] ∧ h = hR w s ∧ RQ f s ∧ o ≤ 34 ∧ a ≤ 34 ∧ b ≤ 34 ∧ gPost w s f o (fun t => s.2.2 24 (256 * (a : Int) + t) + sg * s.2.2 24 (256 * (b : Int) + t)) N
abbrev e_X10_sum : NE := (ftX10, [(191, (1, 0, 0, false, (0, 10), T_X10_forget)), (184, (2, 0, 0, false, (1, 0), T_X10_cell)), (194, (2, 0, 0, false, (0, 10), T_X10_take))], ltX10, [], [], false, 2, (0, 0), [], [], [], false)
theorem s_X10_sum : mm_Spec e_X10_sum kX10_sum 7 T_X10_sum := by
  rintro N X K av h hK ⟨w, s, f, o, a, b, sg, rfl, rfl, hQ, ho, ha, hb, h2⟩
  have hQ0 := hQ
  obtain ⟨hf, hn, hd, hroot⟩ := hQ
  obtain ⟨b1, b2, b3, b4, b5, b6, b7, b8, b9, b10, b11, b12⟩ := fbase hf
  have loop : ∀ i : Nat, i ≤ fD f → ∀ c : Int → Int64, (∀ e : Nat, e < 512 → c (e : Int) = if e < i then s.2.2 24 (256 * (a : Int) + e) + sg * s.2.2 24 (256 * (b : Int) + e) else 0) → K 7 [some (mR 1000), some (mI o), some (mI a), some (mI b), some (mL sg), none, some (mI i)] [] (hR w (sL s 25 c)) 0 0 := by
    refine mm_for (fD f) (fun c hc => ?_) (fun i hi ih c hc => ?_)
    · refine hK [7] _ _ _ _ _ _ ?_
      conv => whnf
      rw [show (sL s 25 c).1 15 = (fD f : Int) from hd]
      refine And.intro (fun _ => ?_) (fun q => absurd q (by omega))
      refine ⟨w, sL s 25 c, f, o, rfl, rfl, hQ0, ho, fun r v hv => And.intro (bi_01 _) (gPost_fin h2 (fun t ht => ?_) hv)⟩
      have e1 : cV f (fun e => c (e : Int)) (fN f) t = cV f (fun e => c (e : Int)) (fD f) t := by
        unfold cV
        rw [show fN f = fD f + (fN f - fD f) by omega, sumL_split]
        rw [sumL_congr (g := fun i => c ((fD f + i : Nat) : Int) * rho f (fD f + i) t) (g' := fun _ => 0) _ (fun j hj => by rw [hc (fD f + j) (by omega), if_neg (by omega)]; simp), sumL_0]
        simp
      rw [e1, cV_low hf ht, hc t (by omega), if_pos ht]
    · refine hK [7] _ _ _ _ _ _ ?_
      conv => whnf
      rw [show (sL s 25 c).1 15 = (fD f : Int) from hd]
      refine And.intro (fun q => absurd q (by omega)) (fun _ => ?_)
      refine ⟨a, i, rfl, by omega, by omega, by omega, by omega, ?_⟩
      refine And.intro (by omega) ?_
      refine ⟨b, i, rfl, by omega, by omega, by omega, by omega, ?_⟩
      refine And.intro (by omega) ?_
      refine And.intro (by omega) ?_
      refine And.intro (rng_of (by omega) (by omega)) ?_
      refine ih (mm_updL c (i : Int) (s.2.2 24 (256 * (a : Int) + i) + sg * s.2.2 24 (256 * (b : Int) + i))) (fun e he => ?_)
      unfold mm_updL
      by_cases q : e = i
      · rw [if_pos (by omega), if_pos (by omega), q]
      · rw [if_neg (by omega), hc e he]
        by_cases q2 : e < i
        · rw [if_pos q2, if_pos (by omega)]
        · rw [if_neg q2, if_neg (by omega)]
  refine ⟨rfl, hK [7] _ _ _ _ _ _ ?_⟩
  refine ⟨w, s, rfl, rfl, fun c hc => ?_⟩
  exact loop 0 (by omega) c (fun e he => by rw [if_neg (by omega)]; exact hc e he)
theorem m_X10_sum (l : Launch) : mm_Met l yX10_sum cX10_sum 7 (some .boolean) 3 0 0 T_X10_sum := mm_met (E := e_X10_sum) (cd := kX10_sum) s_X10_sum (by decide) kX10_sum_ok (by decide +kernel) (by decide +kernel) (Or.inr (Or.inr (Or.inl ⟨rfl, rfl⟩))) rfl (mm_eok_X10 _) (mm_calls_cons (mm_cbv wi_X10_forget (tb7 (i := 4) rfl rfl) (m_X10_forget l) (by decide) (by decide) rfl) (mm_calls_cons (mm_cbs wi_X10_cell (tb5 (i := 238) rfl rfl) (m_X10_cell l) (by decide) (by decide) rfl) (mm_calls_cons (mm_cbv wi_X10_take (tb7 (i := 8) rfl rfl) (m_X10_take l) (by decide) (by decide) rfl) (mm_calls_nil))))
def T_X10_whole : Tr := fun av h N _ => ∃ (w : FW) (s : RS) (f o : Nat) (v : Int64), av = [mR 1000, mI o, mL v] ∧ h = hR w s ∧ RQ f s ∧ o ≤ 34 ∧ gPost w s f o (fun t => if t = 0 then v else 0) N
abbrev e_X10_whole : NE := (ftX10, [(191, (1, 0, 0, false, (0, 10), T_X10_forget)), (194, (2, 0, 0, false, (0, 10), T_X10_take))], ltX10, [], [], false, 2, (0, 0), [], [], [], false)
theorem s_X10_whole : mm_Spec e_X10_whole kX10_whole 4 T_X10_whole := by
  rintro N X K av h hK ⟨w, s, f, o, v, rfl, rfl, hQ, ho, h2⟩
  have hQ0 := hQ
  obtain ⟨hf, hn, hd, hroot⟩ := hQ
  obtain ⟨b1, b2, b3, b4, b5, b6, b7, b8, b9, b10, b11, b12⟩ := fbase hf
  refine ⟨rfl, hK [] _ _ _ _ _ _ ?_⟩
  refine ⟨w, s, rfl, rfl, fun c hc => ?_⟩
  refine And.intro (by omega) ?_
  refine ⟨w, sL s 25 (mm_updL c 0 v), f, o, rfl, rfl, hQ0, ho, fun r v2 hv => And.intro (bi_01 _) (gPost_fin h2 (fun t ht => ?_) hv)⟩
  have h1 := cV_upd' (f := f) (t := t) (i := 0) (n := fN f) (c := c) (b := v) (by omega)
  have h0 : c ((0 : Nat) : Int) + v = v := by rw [hc 0 (by omega)]; simp
  rw [h0, cV_zero (c := fun e => c (e : Int)) (fun e he => hc e (by omega)), rho_low hf (by omega) ht] at h1
  refine h1.trans ?_
  by_cases q : t = 0
  · rw [if_pos q]; simp [q]
  · rw [if_neg q]; simp [q]
theorem m_X10_whole (l : Launch) : mm_Met l yX10_whole cX10_whole 4 (some .boolean) 3 0 0 T_X10_whole := mm_met (E := e_X10_whole) (cd := kX10_whole) s_X10_whole (by decide) kX10_whole_ok (by decide +kernel) (by decide +kernel) (Or.inr (Or.inr (Or.inl ⟨rfl, rfl⟩))) rfl (mm_eok_X10 _) (mm_calls_cons (mm_cbv wi_X10_forget (tb7 (i := 4) rfl rfl) (m_X10_forget l) (by decide) (by decide) rfl) (mm_calls_cons (mm_cbv wi_X10_take (tb7 (i := 8) rfl rfl) (m_X10_take l) (by decide) (by decide) rfl) (mm_calls_nil)))
def T_X10_product : Tr := fun av h N _ => ∃ (w : FW) (s : RS) (f o a b : Nat), av = [mR 1000, mI o, mI a, mI b] ∧ h = hR w s ∧ RQ f s ∧ o ≤ 34 ∧ a ≤ 34 ∧ b ≤ 34 ∧ gPost w s f o (mulV f (fun t => s.2.2 24 (256 * (a : Int) + t)) (fun t => s.2.2 24 (256 * (b : Int) + t))) N
abbrev e_X10_product : NE := (ftX10, [(191, (1, 0, 0, false, (0, 10), T_X10_forget)), (184, (2, 0, 0, false, (1, 0), T_X10_cell)), (197, (3, 0, 0, false, (0, 10), T_X10_counts)), (194, (2, 0, 0, false, (0, 10), T_X10_take))], ltX10, [], [], false, 2, (0, 0), [], [], [], false)
set_option maxHeartbeats 4000000 in
theorem s_X10_product : mm_Spec e_X10_product kX10_product 8 T_X10_product := by
  rintro N X K av h hK ⟨w, s, f, o, a, b, rfl, rfl, hQ, ho, ha, hb, h2⟩
  have hQ0 := hQ
  obtain ⟨hf, hn, hd, hroot⟩ := hQ
  obtain ⟨b1, b2, b3, b4, b5, b6, b7, b8, b9, b10, b11, b12⟩ := fbase hf
  obtain ⟨x, hx⟩ : ∃ x : Nat → Int64, x = fun t : Nat => s.2.2 24 (256 * (a : Int) + (t : Int)) := ⟨_, rfl⟩
  obtain ⟨y, hy⟩ : ∃ y : Nat → Int64, y = fun t : Nat => s.2.2 24 (256 * (b : Int) + (t : Int)) := ⟨_, rfl⟩
  have loopI : ∀ i : Nat, i ≤ fD f → ∀ (c : Int → Int64) (o5 o6 o7 : Option MV), (∀ t, t < fD f → cV f (fun e => c (e : Int)) (fN f) t = sumL (fun i => sumL (fun j => x i * y j * rho f ((i + j) % fN f) t) (fD f)) i) → K 7 [some (mR 1000), some (mI o), some (mI a), some (mI b), some (mI i), o5, o6, o7] [] (hR w (sL s 25 c)) 0 0 := by
    refine mm_for (fD f) (fun c o5 o6 o7 hc => ?_) (fun i hi ih c o5 o6 o7 hc => ?_)
    · refine hK [7] _ _ _ _ _ _ ?_
      conv => whnf
      rw [show (sL s 25 c).1 15 = (fD f : Int) from hd]
      refine And.intro (fun _ => ?_) (fun q => absurd q (by omega))
      refine ⟨w, sL s 25 c, f, o, rfl, rfl, hQ0, ho, fun r v hv => And.intro (bi_01 _) (gPost_fin h2 (fun t ht => ?_) hv)⟩
      rw [hc t ht, hx, hy]
      rfl
    · have loopJ : ∀ j : Nat, j ≤ fD f → ∀ c : Int → Int64, (∀ t, t < fD f → cV f (fun e => c (e : Int)) (fN f) t = sumL (fun i => sumL (fun j => x i * y j * rho f ((i + j) % fN f) t) (fD f)) i + sumL (fun j => x i * y j * rho f ((i + j) % fN f) t) j) → K 42 [some (mR 1000), some (mI o), some (mI a), some (mI b), some (mI i), some (mL (x i)), none, some (mI j)] [] (hR w (sL s 25 c)) 0 0 := by
        refine mm_for (fD f) (fun c hc => ?_) (fun j hj ihj c hc => ?_)
        · refine hK [7, 42] _ _ _ _ _ _ ?_
          conv => whnf
          rw [show (sL s 25 c).1 15 = (fD f : Int) from hd]
          refine And.intro (fun _ => ?_) (fun q => absurd q (by omega))
          refine And.intro (rng_of (by omega) (by omega)) ?_
          exact ih c _ _ _ hc
        · refine hK [7, 42] _ _ _ _ _ _ ?_
          conv => whnf
          rw [show (sL s 25 c).1 15 = (fD f : Int) from hd]
          refine And.intro (fun q => absurd q (by omega)) (fun _ => ?_)
          refine ⟨b, j, rfl, by omega, by omega, by omega, by omega, ?_⟩
          refine And.intro (by omega) ?_
          refine ⟨w, sL s 25 c, i + j, fN f, x i * y j, ?_, rfl, by omega, hn, by omega, by omega, ?_⟩
          · show [mR 1000, mL (Int64.ofInt (i : Int) + Int64.ofInt (j : Int)), mL (x i * s.2.2 24 (256 * (b : Int) + j))] = _
            rw [← Int64.ofInt_add, hy]
            rfl
          · refine And.intro (rng_of (by omega) (by omega)) ?_
            refine ihj (mm_updL c (((i + j) % fN f : Nat) : Int) (c (((i + j) % fN f : Nat) : Int) + x i * y j)) (fun t ht => ?_)
            rw [cV_upd' (Nat.mod_lt _ (by omega)), hc t ht]
            show _ = _ + (sumL (fun j => x i * y j * rho f ((i + j) % fN f) t) j + x i * y j * rho f ((i + j) % fN f) t)
            grind
      refine hK [7, 42] _ _ _ _ _ _ ?_
      conv => whnf
      rw [show (sL s 25 c).1 15 = (fD f : Int) from hd]
      refine And.intro (fun q => absurd q (by omega)) (fun _ => ?_)
      refine ⟨a, i, rfl, by omega, by omega, by omega, by omega, ?_⟩
      refine And.intro (by omega) ?_
      conv => whnf
      rw [show (sL s 25 c).2.2 24 (256 * (a : Int) + i) = x i by rw [hx]; rfl]
      refine And.intro (fun _ => ?_) (fun q => ?_)
      · refine loopJ 0 (by omega) c (fun t ht => ?_)
        rw [hc t ht]
        show _ = _ + 0
        simp
      · have e : x i = 0 := ((cmp_eq _ _).mp q).trans lc0
        refine And.intro (rng_of (by omega) (by omega)) ?_
        refine ih c _ _ _ (fun t ht => ?_)
        rw [hc t ht]
        show _ = _ + sumL (fun j => x i * y j * rho f ((i + j) % fN f) t) (fD f)
        have hz : sumL (fun j => x i * y j * rho f ((i + j) % fN f) t) (fD f) = 0 := by
          rw [sumL_congr (g := fun j => x i * y j * rho f ((i + j) % fN f) t) (g' := fun _ => 0) _ (fun j _ => by rw [e]; simp), sumL_0]
        rw [hz]
        simp
  refine ⟨rfl, hK [7] _ _ _ _ _ _ ?_⟩
  refine ⟨w, s, rfl, rfl, fun c hc => ?_⟩
  exact loopI 0 (by omega) c none none none (fun t ht => cV_zero (fun e he => hc e (by omega)))
theorem m_X10_product (l : Launch) : mm_Met l yX10_product cX10_product 8 (some .boolean) 3 0 0 T_X10_product := mm_met (E := e_X10_product) (cd := kX10_product) s_X10_product (by decide) kX10_product_ok (by decide +kernel) (by decide +kernel) (Or.inr (Or.inr (Or.inl ⟨rfl, rfl⟩))) rfl (mm_eok_X10 _) (mm_calls_cons (mm_cbv wi_X10_forget (tb7 (i := 4) rfl rfl) (m_X10_forget l) (by decide) (by decide) rfl) (mm_calls_cons (mm_cbs wi_X10_cell (tb5 (i := 238) rfl rfl) (m_X10_cell l) (by decide) (by decide) rfl) (mm_calls_cons (mm_cbv wi_X10_counts (tb7 (i := 26) rfl rfl) (m_X10_counts l) (by decide) (by decide) rfl) (mm_calls_cons (mm_cbv wi_X10_take (tb7 (i := 8) rfl rfl) (m_X10_take l) (by decide) (by decide) rfl) (mm_calls_nil)))))
def T_X10_move : Tr := fun av h N _ => ∃ (w : FW) (s : RS) (f o b a : Nat), av = [mR 1000, mI o, mI b, mI a] ∧ h = hR w s ∧ RQ f s ∧ o ≤ 34 ∧ b ≤ 34 ∧ a ≤ 506 ∧ gPost w s f o (mvV f (fun t => s.2.2 24 (256 * (b : Int) + t)) a) N
abbrev e_X10_move : NE := (ftX10, [(191, (1, 0, 0, false, (0, 10), T_X10_forget)), (184, (2, 0, 0, false, (1, 0), T_X10_cell)), (197, (3, 0, 0, false, (0, 10), T_X10_counts)), (194, (2, 0, 0, false, (0, 10), T_X10_take))], ltX10, [], [], false, 2, (0, 0), [], [], [], false)
theorem s_X10_move : mm_Spec e_X10_move kX10_move 5 T_X10_move := by
  rintro N X K av h hK ⟨w, s, f, o, b, a, rfl, rfl, hQ, ho, hb, ha, h2⟩
  have hQ0 := hQ
  obtain ⟨hf, hn, hd, hroot⟩ := hQ
  obtain ⟨b1, b2, b3, b4, b5, b6, b7, b8, b9, b10, b11, b12⟩ := fbase hf
  obtain ⟨x, hx⟩ : ∃ x : Nat → Int64, x = fun t : Nat => s.2.2 24 (256 * (b : Int) + (t : Int)) := ⟨_, rfl⟩
  have loop : ∀ i : Nat, i ≤ fD f → ∀ c : Int → Int64, (∀ t, t < fD f → cV f (fun e => c (e : Int)) (fN f) t = sumL (fun i => x i * rho f (i * a % fN f) t) i) → K 7 [some (mR 1000), some (mI o), some (mI b), some (mI a), some (mI i)] [] (hR w (sL s 25 c)) 0 0 := by
    refine mm_for (fD f) (fun c hc => ?_) (fun i hi ih c hc => ?_)
    · refine hK [7] _ _ _ _ _ _ ?_
      conv => whnf
      rw [show (sL s 25 c).1 15 = (fD f : Int) from hd]
      refine And.intro (fun _ => ?_) (fun q => absurd q (by omega))
      refine ⟨w, sL s 25 c, f, o, rfl, rfl, hQ0, ho, fun r v hv => And.intro (bi_01 _) (gPost_fin h2 (fun t ht => ?_) hv)⟩
      rw [hc t ht, hx]
      rfl
    · refine hK [7] _ _ _ _ _ _ ?_
      conv => whnf
      rw [show (sL s 25 c).1 15 = (fD f : Int) from hd]
      refine And.intro (fun q => absurd q (by omega)) (fun _ => ?_)
      refine ⟨b, i, rfl, by omega, by omega, by omega, by omega, ?_⟩
      refine And.intro (by omega) ?_
      have hia : i * a ≤ 220 * 506 := Nat.mul_le_mul (by omega) ha
      refine ⟨w, sL s 25 c, i * a, fN f, x i, ?_, rfl, by omega, hn, by omega, by omega, ?_⟩
      · show [mR 1000, mL (Int64.ofInt (i : Int) * Int64.ofInt (a : Int)), mL (s.2.2 24 (256 * (b : Int) + i))] = _
        rw [← Int64.ofInt_mul, hx]
        rfl
      · refine And.intro (rng_of (by omega) (by omega)) ?_
        refine ih (mm_updL c ((i * a % fN f : Nat) : Int) (c ((i * a % fN f : Nat) : Int) + x i)) (fun t ht => ?_)
        rw [cV_upd' (Nat.mod_lt _ (by omega)), hc t ht]
        rfl
  refine ⟨rfl, hK [7] _ _ _ _ _ _ ?_⟩
  refine ⟨w, s, rfl, rfl, fun c hc => ?_⟩
  exact loop 0 (by omega) c (fun t ht => cV_zero (fun e he => hc e (by omega)))
theorem m_X10_move (l : Launch) : mm_Met l yX10_move cX10_move 5 (some .boolean) 3 0 0 T_X10_move := mm_met (E := e_X10_move) (cd := kX10_move) s_X10_move (by decide) kX10_move_ok (by decide +kernel) (by decide +kernel) (Or.inr (Or.inr (Or.inl ⟨rfl, rfl⟩))) rfl (mm_eok_X10 _) (mm_calls_cons (mm_cbv wi_X10_forget (tb7 (i := 4) rfl rfl) (m_X10_forget l) (by decide) (by decide) rfl) (mm_calls_cons (mm_cbs wi_X10_cell (tb5 (i := 238) rfl rfl) (m_X10_cell l) (by decide) (by decide) rfl) (mm_calls_cons (mm_cbv wi_X10_counts (tb7 (i := 26) rfl rfl) (m_X10_counts l) (by decide) (by decide) rfl) (mm_calls_cons (mm_cbv wi_X10_take (tb7 (i := 8) rfl rfl) (m_X10_take l) (by decide) (by decide) rfl) (mm_calls_nil)))))
