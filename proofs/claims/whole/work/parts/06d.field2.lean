/-! the component's field: shifts, products, the modulus -/
def shN (f m : Nat) : Nat → Nat → Nat
  | 0, v => v
  | n + 1, v => shN f m n (fsum f v (fneg f m))
def shX (f m x : Nat) : Nat := shN f m (x / (fQ f / fP f)) (x % (fQ f / fP f) * fP f)
theorem sh_c : fevery (fun f => fall f (fun x => Nat.blt (x % (fQ f / fP f) * fP f) (fQ f)) && (Nat.blt 0 (fQ f / fP f) && Nat.beq (fQ f / fP f) (fP f ^ (fK f - 1)))) = true := by decide +kernel
theorem sh_at {f : Nat} (hf : f < 15) : (∀ x, x < fQ f → x % (fQ f / fP f) * fP f < fQ f) ∧ 0 < fQ f / fP f ∧ fQ f / fP f = fP f ^ (fK f - 1) := by
  have h := fevery_at sh_c hf
  rw [Bool.and_eq_true, Bool.and_eq_true] at h
  exact ⟨fun x hx => mm_blt_t (fall_at h.1 hx), mm_blt_t h.2.1, Nat.eq_of_beq_eq_true h.2.2⟩
theorem shN_lt {f m : Nat} (hf : f < 15) (hm : m < fQ f) : ∀ n v, v < fQ f → shN f m n v < fQ f
  | 0, v, h => h
  | n + 1, v, h => shN_lt hf hm n _ (fsum_lt hf h (fneg_lt hf hm))
theorem shX_lt {f m x : Nat} (hf : f < 15) (hm : m < fQ f) (hx : x < fQ f) : shX f m x < fQ f := shN_lt hf hm _ _ ((sh_at hf).1 x hx)
def T_X1_fillShifts : Tr := fun av h N _ => ∃ (w : CW) (c : CS) (f m : Nat), av = [mR 1] ∧ h = hC w c ∧ CF0 f c ∧ CFs f c ∧ CFn f c ∧ c.1 4 = (m : Nat) ∧ m < fQ f ∧ ∀ b : Int → Int, (∀ x : Nat, x < fQ f → b (x : Int) = (shX f m x : Nat)) → N none (hC w (kA c 4 b))
abbrev e_X1_fillShifts : NE := (ftX1, [(84, (3, 0, 0, false, (0, 1), T_X1_minus))], ltX1, [], [], false, 0, (0, 0), [], [], [], true)
set_option maxHeartbeats 4000000 in
theorem s_X1_fillShifts : mm_Spec e_X1_fillShifts kX1_fillShifts 5 T_X1_fillShifts := by
  rintro N X K av h hK ⟨w, c, f, m, rfl, rfl, h0, hs, hn, hm, hmq, h2⟩
  have hb := fbase h0.1
  obtain ⟨t1, t2, t3⟩ := sh_at h0.1
  have hq : ∀ b : Int → Int, (kA c 4 b).1 3 = (fQ f : Int) := fun _ => h0.2.2.2
  have hp : ∀ b : Int → Int, (kA c 4 b).1 1 = (fP f : Int) := fun _ => h0.2.1
  have ht : fQ f / fP f ≤ fQ f := Nat.div_le_self _ _
  have rows : ∀ x : Nat, x ≤ fQ f → ∀ (b : Int → Int) (o1 o2 : Option MV), (∀ u : Nat, u < x → b (u : Int) = (shX f m u : Nat)) → K 12 [some (mR 1), some (mI (fQ f / fP f : Nat)), some (mI x), o1, o2] [] (hC w (kA c 4 b)) 0 0 := by
    refine mm_for (fQ f) (fun b o1 o2 hB => ?_) (fun x hx ih b o1 o2 hB => ?_)
    · refine hK [] _ _ _ _ _ _ ?_
      conv => whnf
      rw [hq]
      refine And.intro (fun _ => ?_) (fun q => absurd q (by omega))
      exact h2 b hB
    · have hd := Nat.div_le_self x (fQ f / fP f)
      have inner : ∀ (n v i : Nat), i + n = x / (fQ f / fP f) → v < fQ f → shN f m n v = shX f m x → K 32 [some (mR 1), some (mI (fQ f / fP f : Nat)), some (mI x), some (mI v), some (mI i)] [] (hC w (kA c 4 b)) 0 0 := by
        intro n
        induction n with
        | zero =>
          intro v i hi hv he
          have hv2 : v = shX f m x := he
          refine hK [12] _ _ _ _ _ _ ?_
          refine And.intro (dv_ok t2 (by omega)) ?_
          rw [tdn]
          refine And.intro (fun _ => ?_) (fun q => absurd q (by omega))
          refine And.intro (by omega) ?_
          refine And.intro (rng_of (by omega) (by omega)) ?_
          refine ih (mm_upd b (x : Int) (v : Int)) _ _ (fun u hu => ?_)
          unfold mm_upd
          by_cases e : u = x
          · rw [if_pos (by omega), e, hv2]
          · rw [if_neg (by omega)]
            exact hB u (by omega)
        | succ n ihn =>
          intro v i hi hv he
          refine hK [32] _ _ _ _ _ _ ?_
          refine And.intro (dv_ok t2 (by omega)) ?_
          rw [tdn]
          refine And.intro (fun q => absurd q (by omega)) (fun _ => ?_)
          refine ⟨w, kA c 4 b, f, v, m, by show [mR 1, mI (v : Int), mI (c.1 4)] = _; rw [hm], rfl, h0, hs, hn, hv, hmq, ?_⟩
          refine And.intro (rng_of (by omega) (by omega)) ?_
          exact ihn _ (i + 1) (by omega) (fsum_lt h0.1 hv (fneg_lt h0.1 hmq)) he
      have hx2 := t1 x hx
      refine hK [32] _ _ _ _ _ _ ?_
      conv => whnf
      rw [hq]
      refine And.intro (fun q => absurd q (by omega)) (fun _ => ?_)
      refine And.intro (dv_ok t2 (by omega)) ?_
      rw [tmn]
      conv => whnf
      rw [hp, cmul]
      refine And.intro (rng_nat (by omega)) ?_
      exact inner _ _ 0 (by omega) hx2 rfl
  refine ⟨rfl, hK [12] _ _ _ _ _ _ ?_⟩
  conv => whnf
  rw [h0.2.2.2, h0.2.1]
  refine And.intro (dv_ok (by omega) (by omega)) ?_
  rw [tdn]
  exact rows 0 (by omega) (c.2.1 4) _ _ (fun u z => absurd z (by omega))
theorem m_X1_fillShifts (l : Launch) : mm_Met l yX1_fillShifts cX1_fillShifts 5 none 2 0 0 T_X1_fillShifts := mm_met (E := e_X1_fillShifts) (cd := kX1_fillShifts) s_X1_fillShifts (by decide) kX1_fillShifts_ok (by decide +kernel) (by decide +kernel) (Or.inl ⟨rfl, rfl⟩) rfl (mm_eok_X1 _) (mm_calls_cons (mm_cbv wi_X1_minus (tb2 (i := 78) rfl rfl) (m_X1_minus l) (by decide) (by decide) rfl) (mm_calls_nil))
def mpA (f x : Nat) : Nat → Nat → Nat
  | 0, a => a
  | n + 1, a => mpA f x n (fsum f a x)
def mpX (f : Nat) (sh : Nat → Nat) (x y : Nat) : Nat → Nat → Nat
  | 0, a => a
  | n + 1, a => mpX f sh x y n (mpA f x (y / fP f ^ n % fP f) (sh a))
theorem mpA_lt {f x : Nat} (hf : f < 15) (hx : x < fQ f) : ∀ n a, a < fQ f → mpA f x n a < fQ f
  | 0, a, h => h
  | n + 1, a, h => mpA_lt hf hx n _ (fsum_lt hf h hx)
theorem mpX_lt {f x y : Nat} {sh : Nat → Nat} (hf : f < 15) (hx : x < fQ f) (hs : ∀ z, z < fQ f → sh z < fQ f) : ∀ n a, a < fQ f → mpX f sh x y n a < fQ f
  | 0, a, h => h
  | n + 1, a, h => mpX_lt hf hx hs n _ (mpA_lt hf hx _ _ (hs a h))
def T_X1_multiplied : Tr := fun av h N _ => ∃ (w : CW) (c : CS) (f x y : Nat) (sh : Nat → Nat), av = [mR 1, mI x, mI y] ∧ h = hC w c ∧ CF0 f c ∧ CFs f c ∧ (∀ z : Nat, z < fQ f → c.2.1 4 (z : Int) = (sh z : Nat) ∧ sh z < fQ f) ∧ x < fQ f ∧ y < fQ f ∧ N (some (mI (mpX f sh x y (fK f) 0 : Nat))) h
abbrev e_X1_multiplied : NE := (ftX1, [(68, (3, 0, 0, false, (0, 1), T_X1_plus))], ltX1, [], [], false, 1, (0, 0), [], [], [], true)
set_option maxHeartbeats 4000000 in
theorem s_X1_multiplied : mm_Spec e_X1_multiplied kX1_multiplied 6 T_X1_multiplied := by
  rintro N X K av h hK ⟨w, c, f, x, y, sh, rfl, rfl, h0, hs, hsh, hx, hy, h2⟩
  obtain ⟨b1, b2, b3, b4, b5, b6, b7, -⟩ := fbase h0.1
  obtain ⟨t1, t2, t3⟩ := sh_at h0.1
  have outer : ∀ (n a : Nat) (u : Int) (o : Option MV), a < fQ f → n ≤ fK f → mpX f sh x y n a = mpX f sh x y (fK f) 0 → u = (match n with | 0 => 0 | k + 1 => ((fP f ^ k : Nat) : Int)) → K 13 [some (mR 1), some (mI x), some (mI y), some (mI a), some (mI u), o] [] (hC w c) 0 0 := by
    intro n
    induction n with
    | zero =>
      intro a u o ha hn he hu
      have hu : u = 0 := hu
      subst hu
      have he : a = mpX f sh x y (fK f) 0 := he
      rw [← he] at h2
      refine hK [] _ _ _ _ _ _ ?_
      refine And.intro (fun _ => ?_) (fun q => absurd q (by omega))
      exact h2
    | succ n ih =>
      intro a u o ha hn he hu
      have hu : u = ((fP f ^ n : Nat) : Int) := hu
      subst hu
      have hpos : 0 < fP f ^ n := Nat.pow_pos (by omega)
      have hle : fP f ^ n ≤ fQ f := by rw [← b7]; exact Nat.pow_le_pow_right (by omega) (by omega)
      have hdm := Nat.mod_lt (y / fP f ^ n) (show 0 < fP f by omega)
      have hdl := Nat.div_le_self y (fP f ^ n)
      have inner : ∀ (k v i : Nat), i + k = y / fP f ^ n % fP f → v < fQ f → mpA f x k v = mpA f x (y / fP f ^ n % fP f) (sh a) → K 28 [some (mR 1), some (mI x), some (mI y), some (mI v), some (mI (fP f ^ n : Nat)), some (mI i)] [] (hC w c) 0 0 := by
        intro k
        induction k with
        | zero =>
          intro v i hi hv hr
          have hr : v = mpA f x (y / fP f ^ n % fP f) (sh a) := hr
          refine hK [13] _ _ _ _ _ _ ?_
          refine And.intro (dv_ok hpos (by omega)) ?_
          rw [tdn]
          conv => whnf
          rw [h0.2.1]
          refine And.intro (dv_ok (by omega) (by omega)) ?_
          rw [tmn]
          refine And.intro (fun _ => ?_) (fun q => absurd q (by omega))
          conv => whnf
          rw [h0.2.1]
          refine And.intro (dv_ok (by omega) (by omega)) ?_
          rw [tdn]
          refine ih v _ _ hv (by omega) (by rw [hr]; exact he) ?_
          cases n with
          | zero =>
            show ((fP f ^ 0 / fP f : Nat) : Int) = 0
            rw [Nat.pow_zero, Nat.div_eq_of_lt (by omega)]
            rfl
          | succ n =>
            show ((fP f ^ (n + 1) / fP f : Nat) : Int) = ((fP f ^ n : Nat) : Int)
            rw [Nat.pow_succ, Nat.mul_div_cancel _ (by omega)]
        | succ k ihk =>
          intro v i hi hv hr
          refine hK [28] _ _ _ _ _ _ ?_
          refine And.intro (dv_ok hpos (by omega)) ?_
          rw [tdn]
          conv => whnf
          rw [h0.2.1]
          refine And.intro (dv_ok (by omega) (by omega)) ?_
          rw [tmn]
          refine And.intro (fun q => absurd q (by omega)) (fun _ => ?_)
          refine ⟨w, c, f, v, x, rfl, rfl, h0, hs, hv, hx, ?_⟩
          refine And.intro (rng_of (by omega) (by omega)) ?_
          exact ihk _ (i + 1) (by omega) (fsum_lt h0.1 hv hx) hr
      refine hK [28] _ _ _ _ _ _ ?_
      refine And.intro (fun q => absurd q (by omega)) (fun _ => ?_)
      refine And.intro (by omega) ?_
      conv => whnf
      rw [(hsh a ha).1]
      exact inner _ _ 0 (by omega) (hsh a ha).2 rfl
  refine ⟨rfl, hK [13] _ _ _ _ _ _ ?_⟩
  conv => whnf
  rw [h0.2.2.2, h0.2.1]
  refine And.intro (dv_ok (by omega) (by omega)) ?_
  rw [tdn]
  refine outer (fK f) 0 _ _ (by omega) (Nat.le_refl _) rfl ?_
  obtain ⟨k, hk⟩ : ∃ k, fK f = k + 1 := ⟨fK f - 1, by omega⟩
  rw [hk] at t3 ⊢
  rw [t3]
  rfl
theorem m_X1_multiplied (l : Launch) : mm_Met l yX1_multiplied cX1_multiplied 6 (some .int) 1 0 0 T_X1_multiplied := mm_met (E := e_X1_multiplied) (cd := kX1_multiplied) s_X1_multiplied (by decide) kX1_multiplied_ok (by decide +kernel) (by decide +kernel) (Or.inr (Or.inl ⟨rfl, rfl⟩)) rfl (mm_eok_X1 _) (mm_calls_cons (mm_cbv wi_X1_plus (tb2 (i := 82) rfl rfl) (m_X1_plus l) (by decide) (by decide) rfl) (mm_calls_nil))
def isP (f m : Nat) : Bool := (List.range (fQ f)).any (fun x => (List.range (fQ f)).any (fun y => Nat.ble (fP f) x && (Nat.ble (fP f) y && Nat.beq (mpX f (shX f m) x y (fK f) 0) 0)))
theorem isP_t {f m x y : Nat} (hx : x < fQ f) (hy : y < fQ f) (h1 : fP f ≤ x) (h2 : fP f ≤ y) (h : mpX f (shX f m) x y (fK f) 0 = 0) : isP f m = true := by
  unfold isP
  refine List.any_eq_true.mpr ⟨x, List.mem_range.mpr hx, List.any_eq_true.mpr ⟨y, List.mem_range.mpr hy, ?_⟩⟩
  rw [h, Nat.ble_eq_true_of_le h1, Nat.ble_eq_true_of_le h2]
  rfl
theorem isP_f {f m : Nat} (h : ∀ x y, x < fQ f → y < fQ f → fP f ≤ x → fP f ≤ y → mpX f (shX f m) x y (fK f) 0 ≠ 0) : isP f m = false := by
  cases hz : isP f m with
  | false => rfl
  | true =>
    unfold isP at hz
    obtain ⟨x, hx, hz⟩ := List.any_eq_true.mp hz
    obtain ⟨y, hy, hz⟩ := List.any_eq_true.mp hz
    simp only [Bool.and_eq_true] at hz
    exact absurd (Nat.eq_of_beq_eq_true hz.2.2) (h x y (List.mem_range.mp hx) (List.mem_range.mp hy) (Nat.le_of_ble_eq_true hz.1) (Nat.le_of_ble_eq_true hz.2.1))
def T_X1_isProduct : Tr := fun av h N _ => ∃ (w : CW) (c : CS) (f m : Nat), av = [mR 1] ∧ h = hC w c ∧ CF0 f c ∧ CFs f c ∧ m < fQ f ∧ (∀ z : Nat, z < fQ f → c.2.1 4 (z : Int) = (shX f m z : Nat)) ∧ N (some (mI (ind (isP f m) : Nat))) h
abbrev e_X1_isProduct : NE := (ftX1, [(100, (3, 0, 0, false, (0, 1), T_X1_multiplied))], ltX1, [], [], false, 2, (0, 0), [], [], [], true)
set_option maxHeartbeats 4000000 in
theorem s_X1_isProduct : mm_Spec e_X1_isProduct kX1_isProduct 3 T_X1_isProduct := by
  rintro N X K av h hK ⟨w, c, f, m, rfl, rfl, h0, hs, hm, hsh, h2⟩
  have hb := fbase h0.1
  have rows : ∀ x : Nat, x ≤ fQ f → (o : Option MV) → fP f ≤ x → (∀ u v, u < x → fP f ≤ u → v < fQ f → fP f ≤ v → mpX f (shX f m) u v (fK f) 0 ≠ 0) → K 5 [some (mR 1), some (mI x), o] [] (hC w c) 0 0 := by
    refine mm_for (fQ f) (fun o hx hA => ?_) (fun x hx ih o hpx hA => ?_)
    · rw [isP_f (fun u v hu hv h1 h2 => hA u v hu h1 hv h2)] at h2
      refine hK [] _ _ _ _ _ _ ?_
      conv => whnf
      rw [h0.2.2.2]
      refine And.intro (fun _ => ?_) (fun q => absurd q (by omega))
      exact And.intro (Or.inl rfl) h2
    · have cols : ∀ y : Nat, y ≤ fQ f → fP f ≤ y → (∀ v, v < y → fP f ≤ v → mpX f (shX f m) x v (fK f) 0 ≠ 0) → K 18 [some (mR 1), some (mI x), some (mI y)] [] (hC w c) 0 0 := by
        refine mm_for (fQ f) (fun hy hB => ?_) (fun y hy ihy hpy hB => ?_)
        · refine hK [5] _ _ _ _ _ _ ?_
          conv => whnf
          rw [h0.2.2.2]
          refine And.intro (fun _ => ?_) (fun q => absurd q (by omega))
          refine And.intro (rng_of (by omega) (by omega)) ?_
          refine ih _ (by omega) (fun u v hu h1 hv h2 => ?_)
          by_cases e : u = x
          · rw [e]; exact hB v hv h2
          · exact hA u v (by omega) h1 hv h2
        · refine hK [18] _ _ _ _ _ _ ?_
          conv => whnf
          rw [h0.2.2.2]
          refine And.intro (fun q => absurd q (by omega)) (fun _ => ?_)
          refine ⟨w, c, f, x, y, shX f m, rfl, rfl, h0, hs, fun z hz => ⟨hsh z hz, shX_lt h0.1 hm hz⟩, hx, hy, ?_⟩
          refine And.intro (fun q => ?_) (fun q => ?_)
          · refine And.intro (rng_of (by omega) (by omega)) ?_
            refine ihy (by omega) (fun v hv h1 => ?_)
            by_cases e : v = y
            · rw [e]; intro z; exact q (by rw [z]; rfl)
            · exact hB v (by omega) h1
          · rw [isP_t hx hy hpx hpy (by omega)] at h2
            exact And.intro (Or.inr rfl) h2
      refine hK [18] _ _ _ _ _ _ ?_
      conv => whnf
      rw [h0.2.2.2]
      refine And.intro (fun q => absurd q (by omega)) (fun _ => ?_)
      conv => whnf
      rw [h0.2.1]
      by_cases e : fP f ≤ fQ f
      · exact cols (fP f) e (Nat.le_refl _) (fun v hv h1 => absurd hv (by omega))
      · omega
  have hpq : fP f ≤ fQ f := by
    rw [← hb.2.2.2.2.2.2.1]
    have : fP f ^ 1 ≤ fP f ^ fK f := Nat.pow_le_pow_right (by omega) hb.2.2.2.2.1
    rw [Nat.pow_one] at this
    exact this
  refine ⟨rfl, hK [5] _ _ _ _ _ _ ?_⟩
  conv => whnf
  rw [h0.2.1]
  exact rows (fP f) hpq _ (Nat.le_refl _) (fun u v hu h1 => absurd hu (by omega))
theorem m_X1_isProduct (l : Launch) : mm_Met l yX1_isProduct cX1_isProduct 3 (some .boolean) 2 0 0 T_X1_isProduct := mm_met (E := e_X1_isProduct) (cd := kX1_isProduct) s_X1_isProduct (by decide) kX1_isProduct_ok (by decide +kernel) (by decide +kernel) (Or.inr (Or.inr (Or.inl ⟨rfl, rfl⟩))) rfl (mm_eok_X1 _) (mm_calls_cons (mm_cbv wi_X1_multiplied (tb2 (i := 90) rfl rfl) (m_X1_multiplied l) (by decide) (by decide) rfl) (mm_calls_nil))
theorem mod_c : fevery (fun f => (List.range (fM f)).all (fun m => isP f m && Nat.blt m (fQ f - 1)) && ((!(Nat.blt (fM f) (fQ f - 1)) || !(isP f (fM f))) && (Nat.blt (fM f) (fQ f) && fall f (fun x => fall f (fun y => Nat.beq (mpX f (shX f (fM f)) x y (fK f) 0) (fprd f x y)))))) = true := by decide +kernel
theorem mod_at {f : Nat} (hf : f < 15) : (∀ m, m < fM f → isP f m = true ∧ m < fQ f - 1) ∧ (fM f < fQ f - 1 → isP f (fM f) = false) ∧ fM f < fQ f ∧ ∀ x y, x < fQ f → y < fQ f → mpX f (shX f (fM f)) x y (fK f) 0 = fprd f x y := by
  have h := fevery_at mod_c hf
  simp only [Bool.and_eq_true, Bool.or_eq_true, Bool.not_eq_true'] at h
  obtain ⟨h1, h2, h3, h4⟩ := h
  refine ⟨fun m hm => ?_, fun hl => ?_, mm_blt_t h3, fun x y hx hy => Nat.eq_of_beq_eq_true (fall_at (fall_at h4 hx) hy)⟩
  · have := List.all_eq_true.mp h1 m (List.mem_range.mpr hm)
    rw [Bool.and_eq_true] at this
    exact ⟨this.1, mm_blt_t this.2⟩
  · rcases h2 with h2 | h2
    · exact absurd hl (by have := mm_blt_f h2; omega)
    · exact h2
def T_X1_findModulus : Tr := fun av h N _ => ∃ (w : CW) (c : CS) (f : Nat), av = [mR 1] ∧ h = hC w c ∧ CF0 f c ∧ CFs f c ∧ CFn f c ∧ ∀ b : Int → Int, (∀ x : Nat, x < fQ f → b (x : Int) = (shX f (fM f) x : Nat)) → N none (hC w (kA (kI c 4 (fM f : Nat)) 4 b))
abbrev e_X1_findModulus : NE := (ftX1, [(93, (1, 0, 0, false, (0, 1), T_X1_fillShifts)), (96, (1, 0, 0, false, (0, 1), T_X1_isProduct))], ltX1, [], [], false, 0, (0, 0), [], [], [], true)
set_option maxHeartbeats 4000000 in
theorem s_X1_findModulus : mm_Spec e_X1_findModulus kX1_findModulus 1 T_X1_findModulus := by
  rintro N X K av h hK ⟨w, c, f, rfl, rfl, h0, hs, hn, h2⟩
  have hb := fbase h0.1
  obtain ⟨m1, m2, m3, m4⟩ := mod_at h0.1
  have loop : ∀ m : Nat, m ≤ fM f → ∀ (b : Int → Int) (v : Int), v + 1 = (m : Int) → K 5 [some (mR 1)] [] (hC w (kA (kI c 4 v) 4 b)) 0 0 := by
    refine mm_for (fM f) (fun b v hv => ?_) (fun m hm ih b v hv => ?_)
    · refine hK [5] _ _ _ _ _ _ ?_
      conv => whnf
      rw [show (kA (kI c 4 v) 4 b).1 4 = v from rfl, hv]
      refine And.intro (rng_of (by omega) (by omega)) ?_
      refine ⟨w, kA (kI c 4 (fM f : Nat)) 4 b, f, fM f, rfl, rfl, h0, hs, hn, rfl, m3, fun b2 hb2 => ?_⟩
      conv => whnf
      rw [show (kA (kA (kI c 4 (fM f : Nat)) 4 b) 4 b2).1 3 = (fQ f : Int) from h0.2.2.2]
      refine And.intro (rng_of (by omega) (by omega)) ?_
      have e4 : (kA (kA (kI c 4 (fM f : Nat)) 4 b) 4 b2).1 4 = (fM f : Int) := rfl
      refine And.intro (fun q => ?_) (fun q => ?_)
      · exact h2 b2 hb2
      · refine ⟨w, kA (kI c 4 (fM f : Nat)) 4 b2, f, fM f, rfl, rfl, h0, hs, m3, hb2, ?_⟩
        rw [ind_f (m2 (by omega))]
        refine And.intro (fun q => absurd q (by omega)) (fun _ => ?_)
        exact h2 b2 hb2
    · obtain ⟨g1, g2⟩ := m1 m hm
      refine hK [5] _ _ _ _ _ _ ?_
      conv => whnf
      rw [show (kA (kI c 4 v) 4 b).1 4 = v from rfl, hv]
      refine And.intro (rng_of (by omega) (by omega)) ?_
      refine ⟨w, kA (kI c 4 (m : Nat)) 4 b, f, m, rfl, rfl, h0, hs, hn, rfl, by omega, fun b2 hb2 => ?_⟩
      conv => whnf
      rw [show (kA (kA (kI c 4 (m : Nat)) 4 b) 4 b2).1 3 = (fQ f : Int) from h0.2.2.2]
      refine And.intro (rng_of (by omega) (by omega)) ?_
      have e4 : (kA (kA (kI c 4 (m : Nat)) 4 b) 4 b2).1 4 = (m : Int) := rfl
      refine And.intro (fun q => absurd q (by omega)) (fun _ => ?_)
      refine ⟨w, kA (kI c 4 (m : Nat)) 4 b2, f, m, rfl, rfl, h0, hs, by omega, hb2, ?_⟩
      rw [ind_t g1]
      refine And.intro (fun _ => ?_) (fun q => absurd q (by omega))
      exact ih b2 (m : Int) (by omega)
  refine ⟨rfl, hK [5] _ _ _ _ _ _ ?_⟩
  exact loop 0 (by omega) (c.2.1 4) (-1) rfl
theorem m_X1_findModulus (l : Launch) : mm_Met l yX1_findModulus cX1_findModulus 1 none 3 0 0 T_X1_findModulus := mm_met (E := e_X1_findModulus) (cd := kX1_findModulus) s_X1_findModulus (by decide) kX1_findModulus_ok (by decide +kernel) (by decide +kernel) (Or.inl ⟨rfl, rfl⟩) rfl (mm_eok_X1 _) (mm_calls_cons (mm_cbv wi_X1_fillShifts (tb2 (i := 74) rfl rfl) (m_X1_fillShifts l) (by decide) (by decide) rfl) (mm_calls_cons (mm_cbv wi_X1_isProduct (tb2 (i := 86) rfl rfl) (m_X1_isProduct l) (by decide) (by decide) rfl) (mm_calls_nil)))
def T_X1_fillProducts : Tr := fun av h N _ => ∃ (w : CW) (c : CS) (f : Nat), av = [mR 1] ∧ h = hC w c ∧ CF0 f c ∧ CFs f c ∧ (∀ x : Nat, x < fQ f → c.2.1 4 (x : Int) = (shX f (fM f) x : Nat)) ∧ ∀ b : Int → Int, CFp f (kA c 5 b) → N none (hC w (kA c 5 b))
abbrev e_X1_fillProducts : NE := (ftX1, [(100, (3, 0, 0, false, (0, 1), T_X1_multiplied))], ltX1, [], [], false, 0, (0, 0), [], [], [], true)
set_option maxHeartbeats 4000000 in
theorem s_X1_fillProducts : mm_Spec e_X1_fillProducts kX1_fillProducts 3 T_X1_fillProducts := by
  rintro N X K av h hK ⟨w, c, f, rfl, rfl, h0, hs, hsh, h2⟩
  have hb := fbase h0.1
  obtain ⟨m1, m2, m3, m4⟩ := mod_at h0.1
  have hq : ∀ b : Int → Int, (kA c 5 b).1 3 = (fQ f : Int) := fun _ => h0.2.2.2
  have rows : ∀ x : Nat, x ≤ fQ f → ∀ (A : Int → Int) (o : Option MV), tabX (fQ f) x 0 (fprd f) A → K 2 [some (mR 1), some (mI x), o] [] (hC w (kA c 5 A)) 0 0 := by
    refine mm_for (fQ f) (fun A o hA => ?_) (fun x hx ih A o hA => ?_)
    · refine hK [] _ _ _ _ _ _ ?_
      conv => whnf
      rw [hq]
      refine And.intro (fun _ => ?_) (fun q => absurd q (by omega))
      exact h2 A (fun u v hu hv => hA u v hu hv (Or.inl hu))
    · have cols : ∀ y : Nat, y ≤ fQ f → ∀ A : Int → Int, tabX (fQ f) x y (fprd f) A → K 12 [some (mR 1), some (mI x), some (mI y)] [] (hC w (kA c 5 A)) 0 0 := by
        refine mm_for (fQ f) (fun A hA => ?_) (fun y hy ihy A hA => ?_)
        · refine hK [2] _ _ _ _ _ _ ?_
          conv => whnf
          rw [hq]
          refine And.intro (fun _ => ?_) (fun q => absurd q (by omega))
          refine And.intro (rng_of (by omega) (by omega)) ?_
          exact ih A _ (tabX_row hA)
        · have hl := xy_lt hb.1 hx hy
          have hc : (x : Int) * (fQ f : Int) = ((x * fQ f : Nat) : Int) := by push_cast; rfl
          refine hK [12] _ _ _ _ _ _ ?_
          conv => whnf
          rw [hq]
          refine And.intro (fun q => absurd q (by omega)) (fun _ => ?_)
          conv => whnf
          rw [hq]
          refine And.intro (by rw [hc]; exact rng_nat (by omega)) ?_
          refine And.intro (by rw [hc]; exact rng_of (by omega) (by omega)) ?_
          refine ⟨w, kA c 5 A, f, x, y, shX f (fM f), rfl, rfl, h0, hs, fun z hz => ⟨hsh z hz, shX_lt h0.1 m3 hz⟩, hx, hy, ?_⟩
          rw [m4 x y hx hy]
          refine And.intro (by rw [hc]; omega) ?_
          refine And.intro (rng_of (by omega) (by omega)) ?_
          exact ihy _ (tabX_next hA hy)
      refine hK [12] _ _ _ _ _ _ ?_
      conv => whnf
      rw [hq]
      refine And.intro (fun q => absurd q (by omega)) (fun _ => ?_)
      exact cols 0 (by omega) A hA
  refine ⟨rfl, hK [2] _ _ _ _ _ _ ?_⟩
  exact rows 0 (by omega) (c.2.1 5) _ (fun u v _ _ z => absurd z (by omega))
theorem m_X1_fillProducts (l : Launch) : mm_Met l yX1_fillProducts cX1_fillProducts 3 none 2 0 0 T_X1_fillProducts := mm_met (E := e_X1_fillProducts) (cd := kX1_fillProducts) s_X1_fillProducts (by decide) kX1_fillProducts_ok (by decide +kernel) (by decide +kernel) (Or.inl ⟨rfl, rfl⟩) rfl (mm_eok_X1 _) (mm_calls_cons (mm_cbv wi_X1_multiplied (tb2 (i := 90) rfl rfl) (m_X1_multiplied l) (by decide) (by decide) rfl) (mm_calls_nil))
