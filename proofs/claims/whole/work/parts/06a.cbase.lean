/-! the component's state: numbers, rows of ints, rows of longs, the pooled rows, whether the two rows of ways are changed about -/
abbrev CS : Type := (Nat → Int) × (Nat → Int → Int) × (Nat → Int → Int64) × (Nat → Int → Int) × Bool
def kI (c : CS) (k : Nat) (v : Int) : CS := (fu c.1 k v, c.2)
def kA (c : CS) (k : Nat) (v : Int → Int) : CS := (c.1, fu c.2.1 k v, c.2.2)
def kL (c : CS) (k : Nat) (v : Int → Int64) : CS := (c.1, c.2.1, fu c.2.2.1 k v, c.2.2.2)
def kR (c : CS) (v : Nat → Int → Int) : CS := (c.1, c.2.1, c.2.2.1, v, c.2.2.2.2)
def kS (c : CS) (b : Bool) : CS := (c.1, c.2.1, c.2.2.1, c.2.2.2.1, b)
def kW (b : Bool) : Nat := match b with
  | false => 20
  | true => 21
def kJ (b : Bool) : Nat := match b with
  | false => 21
  | true => 20
def kM (b : Bool) (x y : Int → Int64) : Int → Int64 := match b with
  | false => x
  | true => y
def CH (c : CS) : List ME := eO 9 [mR 1, mR 10, mR 18, mR 19, mR 23, mR 25, mR 31, mR 33, mR 15, mR 16, mR 17, mI (c.1 24), mI (c.1 25)] ::
  eO 1 [mI (c.1 1), mI (c.1 2), mI (c.1 3), mI (c.1 4), mI (c.1 5), mR 2, mR 3, mR 4, mR 5, mR 6, mR 7, mR 8, mR 9] ::
  eI 0 729 (c.2.1 2) :: eI 0 27 (c.2.1 3) :: eI 0 27 (c.2.1 4) :: eI 0 729 (c.2.1 5) :: eI 0 27 (c.2.1 6) :: eI 0 27 (c.2.1 7) :: eI 0 27 (c.2.1 8) :: eI 0 5 (c.2.1 9) ::
  eO 4 [mI (c.1 6), mI (c.1 7), mI (c.1 8), mR 11, mR 12, mR 13, mR 14, mI (c.1 9)] :: eI 1 506 (c.2.1 11) :: eL 253 (c.2.2.1 12) :: eI 0 220 (c.2.1 13) :: eI 0 220 (c.2.1 14) ::
  eG 8 0 :: eI 0 27 (c.2.1 16) :: eI 0 200 (c.2.1 17) :: eO 6 [mR 1, mR 10, mR 16] ::
  eO 0 [mR 1, mR (kW c.2.2.2.2), mR (kJ c.2.2.2.2), mR 22] :: eL 27 (kM c.2.2.2.2 (c.2.2.1 20) (c.2.2.1 21)) :: eL 27 (kM c.2.2.2.2 (c.2.2.1 21) (c.2.2.1 20)) :: eI 0 27 (c.2.1 22) ::
  eO 7 [mR 1, mR 24, mI (c.1 10), mI (c.1 11), mI (c.1 12)] :: eI 0 4096 (c.2.1 24) ::
  eO 3 [mR 26, mI (c.1 13), mI (c.1 14), mR 1, mR 10, mR 17, mI (c.1 15), mI (c.1 16), mI (c.1 17), mI (c.1 18), mI (c.1 19), mI (c.1 20)] ::
  eO 2 [mI (c.1 21), mR 27, mR 28, mR 29, mR 30] :: eI 0 200 (c.2.1 27) :: eI 0 200 (c.2.1 28) :: eI 0 200 (c.2.1 29) :: eI 0 200 (c.2.1 30) ::
  eO 8 [mR 10, mR 18, mR 15, mR 32, mI (c.1 22)] :: eG 16 8 :: eO 5 [mR 34, mI (c.1 23)] :: eI 2 2640 (c.2.1 34) :: []
abbrev CW : Type := Option Nat × List ME
def hC (w : CW) (c : CS) : HP := (w.1, CH c, w.2, 24, c.2.2.2.1)
/-- what has not changed -/
def FC (I A L : List Nat) (c c' : CS) : Prop := (∀ k, mm_mem k I = false → c'.1 k = c.1 k) ∧ (∀ k, mm_mem k A = false → c'.2.1 k = c.2.1 k) ∧ (∀ k, mm_mem k L = false → c'.2.2.1 k = c.2.2.1 k) ∧ c'.2.2.2 = c.2.2.2
theorem FC_rf {I A L : List Nat} (c : CS) : FC I A L c c := ⟨fun _ _ => rfl, fun _ _ => rfl, fun _ _ => rfl, rfl⟩
theorem FC_I {I A L : List Nat} {c c' : CS} {k : Nat} {v : Int} (h : FC I A L c c') (hk : mm_mem k I = true) : FC I A L c (kI c' k v) :=
  ⟨fun j hj => by rw [show (kI c' k v).1 j = c'.1 j from fu_ne (fun e => by rw [e, hk] at hj; cases hj)]; exact h.1 j hj, h.2⟩
theorem FC_A {I A L : List Nat} {c c' : CS} {k : Nat} {v : Int → Int} (h : FC I A L c c') (hk : mm_mem k A = true) : FC I A L c (kA c' k v) :=
  ⟨h.1, fun j hj => by rw [show (kA c' k v).2.1 j = c'.2.1 j from fu_ne (fun e => by rw [e, hk] at hj; cases hj)]; exact h.2.1 j hj, h.2.2⟩
theorem FC_L {I A L : List Nat} {c c' : CS} {k : Nat} {v : Int → Int64} (h : FC I A L c c') (hk : mm_mem k L = true) : FC I A L c (kL c' k v) :=
  ⟨h.1, h.2.1, fun j hj => by rw [show (kL c' k v).2.2.1 j = c'.2.2.1 j from fu_ne (fun e => by rw [e, hk] at hj; cases hj)]; exact h.2.2.1 j hj, h.2.2.2⟩
theorem FC_tr {I A L I' A' L' : List Nat} {c c' c2 : CS} (h : FC I A L c c') (h2 : FC I' A' L' c' c2) (hI : I'.all (fun j => mm_mem j I) = true) (hA : A'.all (fun j => mm_mem j A) = true) (hL : L'.all (fun j => mm_mem j L) = true) : FC I A L c c2 := by
  have key : ∀ (X Y : List Nat) (k : Nat), X.all (fun j => mm_mem j Y) = true → mm_mem k Y = false → mm_mem k X = false := by
    intro X
    induction X with
    | nil => intro Y k _ _; rfl
    | cons x t ih =>
      intro Y k hX hk
      rw [List.all_cons, Bool.and_eq_true] at hX
      unfold mm_mem
      cases hb : Nat.beq x k with
      | true =>
        rw [Nat.eq_of_beq_eq_true hb, hk] at hX
        exact absurd hX.1 (by decide)
      | false => exact ih Y k hX.2 hk
  exact ⟨fun k hk => (h2.1 k (key _ _ k hI hk)).trans (h.1 k hk), fun k hk => (h2.2.1 k (key _ _ k hA hk)).trans (h.2.1 k hk), fun k hk => (h2.2.2.1 k (key _ _ k hL hk)).trans (h.2.2.1 k hk), h2.2.2.2.trans h.2.2.2⟩
theorem FC_mono {I A L I' A' L' : List Nat} {c c' : CS} (h : FC I A L c c') (hI : I.all (fun j => mm_mem j I') = true) (hA : A.all (fun j => mm_mem j A') = true) (hL : L.all (fun j => mm_mem j L') = true) : FC I' A' L' c c' := FC_tr (FC_rf c) h hI hA hL
/-! the field's tables -/
def CF0 (f : Nat) (c : CS) : Prop := f < 15 ∧ c.1 1 = (fP f : Nat) ∧ c.1 2 = (fK f : Nat) ∧ c.1 3 = (fQ f : Nat)
def CFs (f : Nat) (c : CS) : Prop := ∀ x y : Nat, x < fQ f → y < fQ f → c.2.1 2 ((x : Int) * (fQ f : Int) + (y : Int)) = (fsum f x y : Nat)
def CFn (f : Nat) (c : CS) : Prop := ∀ x : Nat, x < fQ f → c.2.1 3 (x : Int) = (fneg f x : Nat)
def CFp (f : Nat) (c : CS) : Prop := ∀ x y : Nat, x < fQ f → y < fQ f → c.2.1 5 ((x : Int) * (fQ f : Int) + (y : Int)) = (fprd f x y : Nat)
def CFw (f : Nat) (c : CS) : Prop := (∀ i : Nat, i < fQ f - 1 → c.2.1 6 (i : Int) = (fpow f i : Nat)) ∧ ∀ x : Nat, 1 ≤ x → x < fQ f → c.2.1 7 (x : Int) = (flog f x : Nat)
def CFt (f : Nat) (c : CS) : Prop := ∀ x : Nat, x < fQ f → c.2.1 8 (x : Int) = (ftr f x : Nat)
def CF (f : Nat) (c : CS) : Prop := CF0 f c ∧ CFs f c ∧ CFn f c ∧ CFp f c ∧ CFw f c ∧ CFt f c
theorem xy_lt {q x y : Nat} (hq : q ≤ 27) (hx : x < q) (hy : y < q) : x * q + y < 729 := by
  have h1 : (x + 1) * q ≤ q * q := Nat.mul_le_mul_right q hx
  have h2 : q * q ≤ 27 * 27 := Nat.mul_le_mul hq hq
  rw [Nat.add_mul] at h1
  omega
theorem CF_fr {f : Nat} {I A L : List Nat} {c c' : CS} (h : CF f c) (hF : FC I A L c c') (hI : [1, 2, 3].all (fun j => !(mm_mem j I)) = true) (hA : [2, 3, 5, 6, 7, 8].all (fun j => !(mm_mem j A)) = true) : CF f c' := by
  simp only [List.all_cons, List.all_nil, Bool.and_eq_true, Bool.not_eq_true'] at hI hA
  obtain ⟨i1, i2, i3, -⟩ := hI
  obtain ⟨a2, a3, a5, a6, a7, a8, -⟩ := hA
  obtain ⟨⟨h0, h1, h2, h3⟩, hs, hn, hp, hw, ht⟩ := h
  refine ⟨⟨h0, (hF.1 1 i1).trans h1, (hF.1 2 i2).trans h2, (hF.1 3 i3).trans h3⟩, ?_, ?_, ?_, ⟨?_, ?_⟩, ?_⟩
  · unfold CFs; rw [hF.2.1 2 a2]; exact hs
  · unfold CFn; rw [hF.2.1 3 a3]; exact hn
  · unfold CFp; rw [hF.2.1 5 a5]; exact hp
  · rw [hF.2.1 6 a6]; exact hw.1
  · rw [hF.2.1 7 a7]; exact hw.2
  · unfold CFt; rw [hF.2.1 8 a8]; exact ht
def T_X1_plus : Tr := fun av h N _ => ∃ (w : CW) (c : CS) (f x y : Nat), av = [mR 1, mI x, mI y] ∧ h = hC w c ∧ CF0 f c ∧ CFs f c ∧ x < fQ f ∧ y < fQ f ∧ N (some (mI (fsum f x y : Nat))) h
abbrev e_X1_plus : NE := (ftX1, [], ltX1, [], [], false, 1, (0, 0), [], [], [], true)
theorem s_X1_plus : mm_Spec e_X1_plus kX1_plus 3 T_X1_plus := by
  rintro N X K av h hK ⟨w, c, f, x, y, rfl, rfl, h0, hs, hx, hy, h2⟩
  have hb := fbase h0.1
  have hl := xy_lt hb.1 hx hy
  have hc : (x : Int) * (fQ f : Int) = ((x * fQ f : Nat) : Int) := by push_cast; rfl
  rw [← hs x y hx hy] at h2
  refine ⟨rfl, hK [] _ _ _ _ _ _ ?_⟩
  conv => whnf
  rw [h0.2.2.2]
  refine And.intro (by rw [hc]; exact rng_nat (by omega)) ?_
  refine And.intro (by rw [hc]; exact rng_of (by omega) (by omega)) ?_
  refine And.intro (by rw [hc]; omega) ?_
  exact h2
theorem m_X1_plus (l : Launch) : mm_Met l yX1_plus cX1_plus 3 (some .int) 0 0 0 T_X1_plus := mm_met (E := e_X1_plus) (cd := kX1_plus) s_X1_plus (by decide) kX1_plus_ok (by decide +kernel) (by decide +kernel) (Or.inr (Or.inl ⟨rfl, rfl⟩)) rfl (mm_eok_X1 _) (mm_calls_nil)
def T_X1_minus : Tr := fun av h N _ => ∃ (w : CW) (c : CS) (f x y : Nat), av = [mR 1, mI x, mI y] ∧ h = hC w c ∧ CF0 f c ∧ CFs f c ∧ CFn f c ∧ x < fQ f ∧ y < fQ f ∧ N (some (mI (fsum f x (fneg f y) : Nat))) h
abbrev e_X1_minus : NE := (ftX1, [(68, (3, 0, 0, false, (0, 1), T_X1_plus))], ltX1, [], [], false, 1, (0, 0), [], [], [], true)
theorem s_X1_minus : mm_Spec e_X1_minus kX1_minus 3 T_X1_minus := by
  rintro N X K av h hK ⟨w, c, f, x, y, rfl, rfl, h0, hs, hn, hx, hy, h2⟩
  have hb := fbase h0.1
  refine ⟨rfl, hK [] _ _ _ _ _ _ ?_⟩
  refine And.intro (by omega) ?_
  exact ⟨w, c, f, x, fneg f y, by show [mR 1, mI (x : Int), mI (c.2.1 3 (y : Int))] = _; rw [hn y hy], rfl, h0, hs, hx, fneg_lt h0.1 hy, h2⟩
theorem m_X1_minus (l : Launch) : mm_Met l yX1_minus cX1_minus 3 (some .int) 1 0 0 T_X1_minus := mm_met (E := e_X1_minus) (cd := kX1_minus) s_X1_minus (by decide) kX1_minus_ok (by decide +kernel) (by decide +kernel) (Or.inr (Or.inl ⟨rfl, rfl⟩)) rfl (mm_eok_X1 _) (mm_calls_cons (mm_cbv wi_X1_plus (tb2 (i := 82) rfl rfl) (m_X1_plus l) (by decide) (by decide) rfl) (mm_calls_nil))
def T_X1_times : Tr := fun av h N _ => ∃ (w : CW) (c : CS) (f x y : Nat), av = [mR 1, mI x, mI y] ∧ h = hC w c ∧ CF0 f c ∧ CFp f c ∧ x < fQ f ∧ y < fQ f ∧ N (some (mI (fprd f x y : Nat))) h
abbrev e_X1_times : NE := (ftX1, [], ltX1, [], [], false, 1, (0, 0), [], [], [], true)
theorem s_X1_times : mm_Spec e_X1_times kX1_times 3 T_X1_times := by
  rintro N X K av h hK ⟨w, c, f, x, y, rfl, rfl, h0, hs, hx, hy, h2⟩
  have hb := fbase h0.1
  have hl := xy_lt hb.1 hx hy
  have hc : (x : Int) * (fQ f : Int) = ((x * fQ f : Nat) : Int) := by push_cast; rfl
  rw [← hs x y hx hy] at h2
  refine ⟨rfl, hK [] _ _ _ _ _ _ ?_⟩
  conv => whnf
  rw [h0.2.2.2]
  refine And.intro (by rw [hc]; exact rng_nat (by omega)) ?_
  refine And.intro (by rw [hc]; exact rng_of (by omega) (by omega)) ?_
  refine And.intro (by rw [hc]; omega) ?_
  exact h2
theorem m_X1_times (l : Launch) : mm_Met l yX1_times cX1_times 3 (some .int) 0 0 0 T_X1_times := mm_met (E := e_X1_times) (cd := kX1_times) s_X1_times (by decide) kX1_times_ok (by decide +kernel) (by decide +kernel) (Or.inr (Or.inl ⟨rfl, rfl⟩)) rfl (mm_eok_X1 _) (mm_calls_nil)
def T_X1_over : Tr := fun av h N _ => ∃ (w : CW) (c : CS) (f x y : Nat), av = [mR 1, mI x, mI y] ∧ h = hC w c ∧ CF0 f c ∧ CFp f c ∧ CFw f c ∧ x < fQ f ∧ 1 ≤ y ∧ y < fQ f ∧ N (some (mI (rquo f x y : Nat))) h
abbrev e_X1_over : NE := (ftX1, [(72, (3, 0, 0, false, (0, 1), T_X1_times))], ltX1, [], [], false, 1, (0, 0), [], [], [], true)
theorem s_X1_over : mm_Spec e_X1_over kX1_over 3 T_X1_over := by
  rintro N X K av h hK ⟨w, c, f, x, y, rfl, rfl, h0, hp, hw, hx, hy1, hy, h2⟩
  have hb := fbase h0.1
  have hl := flog_lt h0.1 hy
  have hq := (rquo_at h0.1 hx hy hy1).2.2
  have hpw := fpow_in h0.1 (i := (fQ f - 1 - flog f y) % (fQ f - 1)) (Nat.mod_lt _ (by omega))
  rw [← hq] at h2
  refine ⟨rfl, hK [] _ _ _ _ _ _ ?_⟩
  conv => whnf
  rw [h0.2.2.2]
  refine And.intro (rng_of (by omega) (by omega)) ?_
  refine And.intro (by omega) ?_
  conv => whnf
  rw [hw.2 y hy1 hy, show (fQ f : Int) - 1 - (flog f y : Int) = ((fQ f - 1 - flog f y : Nat) : Int) by omega]
  refine And.intro (rng_nat (by omega)) ?_
  conv => whnf
  rw [h0.2.2.2, show (fQ f : Int) - 1 = ((fQ f - 1 : Nat) : Int) by omega]
  refine And.intro (rng_nat (by omega)) ?_
  refine And.intro (dv_ok (by omega) (by omega)) ?_
  rw [tmn]
  have hm := Nat.mod_lt (fQ f - 1 - flog f y) (show 0 < fQ f - 1 by omega)
  refine And.intro (by omega) ?_
  exact ⟨w, c, f, x, _, by show [mR 1, mI (x : Int), mI (c.2.1 6 _)] = _; rw [hw.1 _ hm], rfl, h0, hp, hx, hpw.1, h2⟩
theorem m_X1_over (l : Launch) : mm_Met l yX1_over cX1_over 3 (some .int) 1 0 0 T_X1_over := mm_met (E := e_X1_over) (cd := kX1_over) s_X1_over (by decide) kX1_over_ok (by decide +kernel) (by decide +kernel) (Or.inr (Or.inl ⟨rfl, rfl⟩)) rfl (mm_eok_X1 _) (mm_calls_cons (mm_cbv wi_X1_times (tb2 (i := 106) rfl rfl) (m_X1_times l) (by decide) (by decide) rfl) (mm_calls_nil))
theorem pwl_c : fevery (fun f => fall f (fun x => Nat.beq x 0 || (List.range (fQ f - 1)).all (fun i => Nat.beq (fprd f (fpow f i) x) (fpow f ((i + flog f x) % (fQ f - 1)))))) = true := by decide +kernel
theorem pw0_c : fevery (fun f => Nat.beq (fpow f 0) 1 && fall f (fun x => Nat.beq (fprd f x 0) 0)) = true := by decide +kernel
theorem pw_log {f x : Nat} (hf : f < 15) (h1 : 1 ≤ x) (hx : x < fQ f) : ∀ n, pw f x n = fpow f (flog f x * n % (fQ f - 1))
  | 0 => by
    have h := fevery_at pw0_c hf
    rw [Bool.and_eq_true] at h
    rw [Nat.mul_zero, Nat.zero_mod, Nat.eq_of_beq_eq_true h.1]
    rfl
  | n + 1 => by
    have hb := fbase hf
    have h := fall_at (fevery_at pwl_c hf) hx
    rw [Bool.or_eq_true] at h
    rcases h with h | h
    · exact absurd (Nat.eq_of_beq_eq_true h) (by omega)
    · have h2 := List.all_eq_true.mp h (flog f x * n % (fQ f - 1)) (List.mem_range.mpr (Nat.mod_lt _ (by omega)))
      show fprd f (pw f x n) x = _
      rw [pw_log hf h1 hx n, Nat.eq_of_beq_eq_true h2, Nat.mod_add_mod, Nat.mul_succ]
theorem pw_0 {f n : Nat} (hf : f < 15) (hn : 1 ≤ n) : pw f 0 n = 0 := by
  have hb := fbase hf
  have h := fevery_at pw0_c hf
  rw [Bool.and_eq_true] at h
  obtain ⟨m, rfl⟩ : ∃ m, n = m + 1 := ⟨n - 1, by omega⟩
  exact Nat.eq_of_beq_eq_true (fall_at h.2 (pw_lt hf (by omega) m))
def T_X1_raised : Tr := fun av h N _ => ∃ (w : CW) (c : CS) (f x n : Nat), av = [mR 1, mI x, mI n] ∧ h = hC w c ∧ CF0 f c ∧ CFw f c ∧ x < fQ f ∧ 1 ≤ n ∧ n ≤ 1000 ∧ N (some (mI (pw f x n : Nat))) h
abbrev e_X1_raised : NE := (ftX1, [], ltX1, [], [], false, 1, (0, 0), [], [], [], true)
theorem s_X1_raised : mm_Spec e_X1_raised kX1_raised 3 T_X1_raised := by
  rintro N X K av h hK ⟨w, c, f, x, n, rfl, rfl, h0, hw, hx, hn1, hn, h2⟩
  have hb := fbase h0.1
  have hl := flog_lt h0.1 hx
  refine ⟨rfl, hK [] _ _ _ _ _ _ ?_⟩
  refine And.intro (fun q => ?_) (fun q => ?_)
  · have hx1 : 1 ≤ x := by omega
    rw [pw_log h0.1 hx1 hx] at h2
    have hlm : flog f x * n ≤ 27 * 1000 := Nat.mul_le_mul (by omega) hn
    have hm := Nat.mod_lt (flog f x * n) (show 0 < fQ f - 1 by omega)
    refine And.intro (by omega) ?_
    conv => whnf
    rw [hw.2 x hx1 hx, cmul]
    refine And.intro (rng_nat (by omega)) ?_
    conv => whnf
    rw [h0.2.2.2, show (fQ f : Int) - 1 = ((fQ f - 1 : Nat) : Int) by omega]
    refine And.intro (rng_nat (by omega)) ?_
    refine And.intro (dv_ok (by omega) (by omega)) ?_
    rw [tmn]
    rw [← hw.1 _ hm] at h2
    refine And.intro (by omega) ?_
    exact h2
  · have hx0 : x = 0 := by omega
    subst hx0
    rw [pw_0 h0.1 hn1] at h2
    exact h2
theorem m_X1_raised (l : Launch) : mm_Met l yX1_raised cX1_raised 3 (some .int) 0 0 0 T_X1_raised := mm_met (E := e_X1_raised) (cd := kX1_raised) s_X1_raised (by decide) kX1_raised_ok (by decide +kernel) (by decide +kernel) (Or.inr (Or.inl ⟨rfl, rfl⟩)) rfl (mm_eok_X1 _) (mm_calls_nil)
