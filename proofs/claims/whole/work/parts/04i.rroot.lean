/-! the reference: what stays as it was; dividing polynomials; the root's polynomial -/
def FR (I A L : List Nat) (s s' : RS) : Prop := (∀ k, mm_mem k I = false → s'.1 k = s.1 k) ∧ (∀ k, mm_mem k A = false → s'.2.1 k = s.2.1 k) ∧ ∀ k, mm_mem k L = false → s'.2.2 k = s.2.2 k
theorem FR_rf {I A L : List Nat} (s : RS) : FR I A L s s := ⟨fun _ _ => rfl, fun _ _ => rfl, fun _ _ => rfl⟩
theorem mm_mem_ne {k j : Nat} {I : List Nat} (h1 : mm_mem k I = true) (h2 : mm_mem j I = false) : j ≠ k := fun e => by rw [e, h1] at h2; cases h2
theorem FR_I {I A L : List Nat} {s s' : RS} {k : Nat} {v : Int} (h : FR I A L s s') (hk : mm_mem k I = true) : FR I A L s (sI s' k v) :=
  ⟨fun j hj => (fu_ne (mm_mem_ne hk hj)).trans (h.1 j hj), h.2.1, h.2.2⟩
theorem FR_A {I A L : List Nat} {s s' : RS} {k : Nat} {v : Int → Int} (h : FR I A L s s') (hk : mm_mem k A = true) : FR I A L s (sA s' k v) :=
  ⟨h.1, fun j hj => (fu_ne (mm_mem_ne hk hj)).trans (h.2.1 j hj), h.2.2⟩
theorem FR_L {I A L : List Nat} {s s' : RS} {k : Nat} {v : Int → Int64} (h : FR I A L s s') (hk : mm_mem k L = true) : FR I A L s (sL s' k v) :=
  ⟨h.1, h.2.1, fun j hj => (fu_ne (mm_mem_ne hk hj)).trans (h.2.2 j hj)⟩
theorem mm_mem_sub {k : Nat} : ∀ {I I' : List Nat}, I.all (fun j => mm_mem j I') = true → mm_mem k I' = false → mm_mem k I = false
  | [], _, _, _ => rfl
  | j :: I, I', h, hk => by
    simp only [List.all_cons, Bool.and_eq_true] at h
    unfold mm_mem
    have hne := mm_mem_ne h.1 hk
    cases hz : Nat.beq j k with
    | true => exact absurd (Nat.eq_of_beq_eq_true hz).symm hne
    | false => exact mm_mem_sub h.2 hk
theorem FR_tr {I A L I' A' L' : List Nat} {s s' s2 : RS} (h : FR I A L s s') (h2 : FR I' A' L' s' s2) (hI : I'.all (fun j => mm_mem j I) = true) (hA : A'.all (fun j => mm_mem j A) = true) (hL : L'.all (fun j => mm_mem j L) = true) : FR I A L s s2 :=
  ⟨fun k hk => (h2.1 k (mm_mem_sub hI hk)).trans (h.1 k hk), fun k hk => (h2.2.1 k (mm_mem_sub hA hk)).trans (h.2.1 k hk), fun k hk => (h2.2.2 k (mm_mem_sub hL hk)).trans (h.2.2 k hk)⟩
theorem FR_mono {I A L I' A' L' : List Nat} {s s' : RS} (h : FR I A L s s') (hI : I.all (fun j => mm_mem j I') = true) (hA : A.all (fun j => mm_mem j A') = true) (hL : L.all (fun j => mm_mem j L') = true) : FR I' A' L' s s' := FR_tr (FR_rf s) h hI hA hL
theorem RQ_fr {f : Nat} {I A L : List Nat} {s s' : RS} (hQ : RQ f s) (h : FR I A L s s') (h1 : mm_mem 14 I = false) (h2 : mm_mem 15 I = false) (h3 : mm_mem 16 L = false) : RQ f s' :=
  ⟨hQ.1, by rw [h.1 14 h1]; exact hQ.2.1, by rw [h.1 15 h2]; exact hQ.2.2.1, by rw [h.2.2 16 h3]; exact hQ.2.2.2⟩
theorem RT_fr {f : Nat} {I A L : List Nat} {s s' : RS} (hT : RT f s) (h : FR I A L s s') (h1 : mm_mem 2 I = false) (h2 : mm_mem 3 I = false) (h3 : mm_mem 4 I = false) (h4 : mm_mem 7 A = false) (h5 : mm_mem 8 A = false) : RT f s' :=
  ⟨hT.1, by rw [h.1 2 h1]; exact hT.2.1, by rw [h.1 3 h2]; exact hT.2.2.1, by rw [h.1 4 h3]; exact hT.2.2.2.1, by rw [h.2.1 7 h4]; exact hT.2.2.2.2.1, by rw [h.2.1 8 h5]; exact hT.2.2.2.2.2⟩
theorem RA_fr {f : Nat} {I A L : List Nat} {s s' : RS} (hA : RA f s) (h : FR I A L s s') (hI : [2, 3, 4, 14, 15].all (fun j => !(mm_mem j I)) = true) (hA2 : [7, 8, 9, 10, 12].all (fun j => !(mm_mem j A)) = true) (h3 : mm_mem 16 L = false) : RA f s' := by
  simp only [List.all_cons, List.all_nil, Bool.and_eq_true, Bool.not_eq_true'] at hI hA2
  refine ⟨RT_fr hA.1 h hI.1 hI.2.1 hI.2.2.1 hA2.1 hA2.2.1, RQ_fr hA.2.1 h hI.2.2.2.1 hI.2.2.2.2.1 h3, ?_, ?_, ?_⟩
  · rw [h.2.1 9 hA2.2.2.1]; exact hA.2.2.1
  · rw [h.2.1 10 hA2.2.2.2.1]; exact hA.2.2.2.1
  · rw [h.2.1 12 hA2.2.2.2.2.1]; exact hA.2.2.2.2
def T_X10_divide : Tr := fun av h N _ => ∃ (w : FW) (s : RS) (sz its d : Nat) (Q K : Nat → Int), av = [mR 1000, mR 1010, mI sz, mI its] ∧ h = hR w s ∧ its < 64 ∧ d ≤ sz ∧ sz ≤ 1000 ∧ d ≤ 500 ∧ s.2.1 22 (its : Int) = d ∧ (∀ j : Nat, j < d → s.2.2 20 (512 * (its : Int) + j) = Int64.ofInt (K j)) ∧ K d = 1 ∧ (∀ j, d < j → K j = 0) ∧ (∀ e : Nat, e ≤ sz → s.2.2 17 (e : Int) = Int64.ofInt (cnv Q K e (sz - d + 1))) ∧ ∀ v : Int → Int64, (∀ e : Nat, e ≤ sz - d → v e = Int64.ofInt (Q e)) → N none (hR w (sL s 17 v))
abbrev e_X10_divide : NE := (ftX10, [], ltX10, [], [], false, 0, (0, 0), [], [], [], false)
set_option maxHeartbeats 4000000 in
theorem s_X10_divide : mm_Spec e_X10_divide kX10_divide 9 T_X10_divide := by
  rintro N X P av h hK ⟨w, s, sz, its, d, Q, K, rfl, rfl, hits, hdz, hz, hd5, hd, hkn, hk1, hk0, hw, h2⟩
  have loop3 : ∀ t : Nat, t ≤ d → ∀ (v : Int → Int64) (o6 o7 o8 : Option MV) (i : Int), i = (sz : Int) - d + 1 + t → (∀ e : Nat, e ≤ sz - d → v e = Int64.ofInt (Q e)) → P 110 [some (mR 1000), some (mR 1010), some (mI sz), some (mI its), some (mI d), some (mI i), o6, o7, o8] [] (hR w (sL s 17 v)) 0 0 := by
    refine mm_for d (fun v o6 o7 o8 i hi hv => ?_) (fun t ht ih v o6 o7 o8 i hi hv => ?_)
    · refine hK [110] _ _ _ _ _ _ ?_
      refine And.intro (fun _ => ?_) (fun q => absurd q (by omega))
      exact h2 v hv
    · refine hK [110] _ _ _ _ _ _ ?_
      refine And.intro (fun q => absurd q (by omega)) (fun _ => ?_)
      refine And.intro (by omega) ?_
      refine And.intro (rng_of (by omega) (by omega)) ?_
      refine ih (mm_updL v i 0) o6 o7 o8 _ (by omega) (fun e he => ?_)
      unfold mm_updL
      rw [if_neg (by omega)]
      exact hv e he
  have loop2 : ∀ t : Nat, t ≤ sz - d + 1 → ∀ (v : Int → Int64) (o6 o7 o8 : Option MV) (i : Int), i = (d : Int) + t → (∀ e : Nat, e < t → v e = Int64.ofInt (Q e)) → (∀ e : Nat, d + t ≤ e → e ≤ sz → v e = Int64.ofInt (Q (e - d))) → P 79 [some (mR 1000), some (mR 1010), some (mI sz), some (mI its), some (mI d), some (mI i), o6, o7, o8] [] (hR w (sL s 17 v)) 0 0 := by
    refine mm_for (sz - d + 1) (fun v o6 o7 o8 i hi hv hv2 => ?_) (fun t ht ih v o6 o7 o8 i hi hv hv2 => ?_)
    · refine hK [79, 110] _ _ _ _ _ _ ?_
      refine And.intro (fun _ => ?_) (fun q => absurd q (by omega))
      refine And.intro (rng_of (by omega) (by omega)) ?_
      refine And.intro (rng_of (by omega) (by omega)) ?_
      exact loop3 0 (by omega) v o6 o7 o8 _ (by omega) (fun e he => hv e (by omega))
    · refine hK [79, 110] _ _ _ _ _ _ ?_
      refine And.intro (fun q => absurd q (by omega)) (fun _ => ?_)
      refine And.intro (rng_of (by omega) (by omega)) ?_
      refine And.intro (by omega) ?_
      refine And.intro (by omega) ?_
      refine And.intro (rng_of (by omega) (by omega)) ?_
      refine ih (mm_updL v (i - d) (v i)) o6 o7 o8 _ (by omega) (fun e he => ?_) (fun e he he2 => ?_)
      · unfold mm_updL
        by_cases q : e = t
        · rw [if_pos (by omega), show i = ((d + t : Nat) : Int) by omega, hv2 (d + t) (by omega) (by omega), q, show d + t - d = t by omega]
        · rw [if_neg (by omega)]
          exact hv e (by omega)
      · unfold mm_updL
        rw [if_neg (by omega)]
        exact hv2 e (by omega) he2
  have loop1 : ∀ (n : Nat) (v : Int → Int64) (o6 o7 o8 : Option MV) (i : Int), n ≤ sz - d + 1 → i = (d : Int) + n - 1 → (∀ e : Nat, e ≤ sz → v e = if d + n ≤ e then Int64.ofInt (Q (e - d)) else Int64.ofInt (cnv Q K e n)) → P 11 [some (mR 1000), some (mR 1010), some (mI sz), some (mI its), some (mI d), some (mI i), o6, o7, o8] [] (hR w (sL s 17 v)) 0 0 := by
    intro n
    induction n with
    | zero =>
      intro v o6 o7 o8 i hn hi hv
      refine hK [11, 79] _ _ _ _ _ _ ?_
      refine And.intro (fun _ => ?_) (fun q => absurd q (by omega))
      exact loop2 0 (by omega) v o6 o7 o8 _ (by omega) (fun e he => by omega) (fun e he he2 => by rw [hv e he2, if_pos (by omega)])
    | succ n ih =>
      intro v o6 o7 o8 i hn hi hv
      have ei : i = ((d + n : Nat) : Int) := by omega
      subst ei
      have htop : v ((d + n : Nat) : Int) = Int64.ofInt (Q n) := by
        rw [hv _ (by omega), if_neg (by omega), show d + n = n + d by omega, cnv_top hk1 hk0]
      have loopJ : ∀ j : Nat, j ≤ d → ∀ v2 : Int → Int64, (∀ e : Nat, e ≤ sz → v2 e = if n ≤ e ∧ e < n + j then v e - Int64.ofInt (Q n) * Int64.ofInt (K (e - n)) else v e) → P 27 [some (mR 1000), some (mR 1010), some (mI sz), some (mI its), some (mI d), some (mI ((d + n : Nat) : Int)), some (mL (Int64.ofInt (Q n))), none, some (mI j)] [] (hR w (sL s 17 v2)) 0 0 := by
        refine mm_for d (fun v2 hv2 => ?_) (fun j hj ihj v2 hv2 => ?_)
        · refine hK [11, 27] _ _ _ _ _ _ ?_
          refine And.intro (fun _ => ?_) (fun q => absurd q (by omega))
          refine And.intro (rng_of (by omega) (by omega)) ?_
          refine ih v2 _ _ _ _ (by omega) (by omega) (fun e he => ?_)
          rw [hv2 e he, hv e he]
          by_cases q : d + n ≤ e
          · rw [if_neg (by omega), if_pos q]
            by_cases q2 : e = d + n
            · rw [if_neg (by omega), q2, show d + n = n + d by omega, cnv_top hk1 hk0, show n + d - d = n by omega]
            · rw [if_pos (by omega)]
          · rw [if_neg q]
            by_cases q2 : n ≤ e
            · rw [if_pos (show n ≤ e ∧ e < n + d from ⟨q2, by omega⟩), if_neg (show ¬ d + (n + 1) ≤ e by omega), show cnv Q K e (n + 1) = cnv Q K e n + (if n ≤ e then Q n * K (e - n) else 0) from rfl, if_pos q2, Int64.ofInt_add, Int64.ofInt_mul]
              grind
            · rw [if_neg (show ¬ (n ≤ e ∧ e < n + d) by omega), if_neg (show ¬ d + (n + 1) ≤ e by omega), show cnv Q K e (n + 1) = cnv Q K e n + (if n ≤ e then Q n * K (e - n) else 0) from rfl, if_neg q2, Int.add_zero]
        · refine hK [11, 27] _ _ _ _ _ _ ?_
          refine And.intro (fun q => absurd q (by omega)) (fun _ => ?_)
          refine And.intro (rng_of (by omega) (by omega)) ?_
          refine And.intro (rng_of (by omega) (by omega)) ?_
          refine And.intro (by omega) ?_
          refine And.intro (rng_of (by omega) (by omega)) ?_
          refine And.intro (rng_of (by omega) (by omega)) ?_
          refine And.intro (by omega) ?_
          refine And.intro (by omega) ?_
          refine And.intro (rng_of (by omega) (by omega)) ?_
          refine ihj (mm_updL v2 (((d + n : Nat) : Int) - d + j) (v2 (((d + n : Nat) : Int) - d + j) - Int64.ofInt (Q n) * (sL s 17 v2).2.2 20 (512 * (its : Int) + j))) (fun e he => ?_)
          rw [show (sL s 17 v2).2.2 20 (512 * (its : Int) + j) = _ from hkn j hj, show ((d + n : Nat) : Int) - d + j = ((n + j : Nat) : Int) by omega]
          unfold mm_updL
          by_cases q : e = n + j
          · rw [if_pos (by omega), if_pos (by omega), hv2 _ (by omega), if_neg (by omega), q, show n + j - n = j by omega]
          · rw [if_neg (by omega), hv2 e he]
            by_cases q2 : n ≤ e ∧ e < n + j
            · rw [if_pos q2, if_pos (by omega)]
            · rw [if_neg q2, if_neg (by omega)]
      refine hK [11, 27] _ _ _ _ _ _ ?_
      refine And.intro (fun q => absurd q (by omega)) (fun _ => ?_)
      refine And.intro (by omega) ?_
      conv => whnf
      rw [show (sL s 17 v).2.2 17 ((d + n : Nat) : Int) = _ from htop]
      exact loopJ 0 (by omega) v (fun e he => by rw [if_neg (by omega)])
  refine ⟨rfl, hK [11] _ _ _ _ _ _ ?_⟩
  refine And.intro (by omega) ?_
  conv => whnf
  rw [hd]
  exact loop1 (sz - d + 1) (s.2.2 17) _ _ _ _ (Nat.le_refl _) (by omega) (fun e he => by rw [if_neg (by omega)]; exact hw e he)
theorem m_X10_divide (l : Launch) : mm_Met l yX10_divide cX10_divide 9 none 0 0 0 T_X10_divide := mm_met (E := e_X10_divide) (cd := kX10_divide) s_X10_divide (by decide) kX10_divide_ok (by decide +kernel) (by decide +kernel) (Or.inl ⟨rfl, rfl⟩) rfl (mm_eok_X10 _) (mm_calls_nil)
def T_X10_layRoot : Tr := fun av h N _ => ∃ (w : FW) (s : RS) (f : Nat), av = [mR 1000] ∧ h = hR w s ∧ f < 15 ∧ s.1 2 = (fP f : Nat) ∧ s.1 4 = (fQ f : Nat) ∧ ∀ s' : RS, FR [14, 15, 23] [21, 22] [16, 17, 20] s s' → RQ f s' → N none (hR w s')
abbrev e_X10_layRoot : NE := (ftX10, [(174, (4, 0, 0, false, (0, 10), T_X10_divide))], ltX10, [], [], false, 0, (0, 0), [], [], [], false)
/-- the polynomials of the divisors of n up to m lie there -/
def KN (n m : Nat) (s : RS) : Prop := s.1 14 = n ∧ s.1 23 = ((dl n m).length : Nat) ∧ ∀ i : Nat, i < (dl n m).length → s.2.1 21 (i : Int) = ((dl n m).getD i 0 : Nat) ∧ s.2.1 22 (i : Int) = (cycD ((dl n m).getD i 0) : Nat) ∧ ∀ j : Nat, j ≤ cycD ((dl n m).getD i 0) → s.2.2 20 (512 * (i : Int) + j) = Int64.ofInt (cyc ((dl n m).getD i 0) j)
theorem dl_in {n m k : Nat} (hm : m ≤ n) (h : k ∈ dl n m) : k ∈ dvs n := by
  unfold dl at h
  unfold dvs
  obtain ⟨h1, h2⟩ := List.mem_filter.mp h
  have := List.mem_range.mp h1
  exact List.mem_filter.mpr ⟨List.mem_range.mpr (by omega), h2⟩
theorem cyc_dv {f m : Nat} (hf : f < 15) (h : m ∈ dvs (fN f)) : cycAll.contains m = true := by
  have h1 := fevery_at cyc_dv_c hf
  simp only [Bool.and_eq_true] at h1
  exact List.all_eq_true.mp h1.1 m h
theorem cyc_dv2 {f : Nat} (hf : f < 15) : (dvs (fN f)).length < 64 ∧ cycD (fN f) = fD f ∧ ∀ j, j ≤ fD f → cyc (fN f) j = fphi f j := by
  have h1 := fevery_at cyc_dv_c hf
  simp only [Bool.and_eq_true] at h1
  refine ⟨mm_blt_t h1.2.1, Nat.eq_of_beq_eq_true h1.2.2.1, fun j hj => ?_⟩
  have := List.all_eq_true.mp h1.2.2.2 j (List.mem_range.mpr (by omega))
  simpa using this
set_option maxHeartbeats 4000000 in
theorem s_X10_layRoot : mm_Spec e_X10_layRoot kX10_layRoot 4 T_X10_layRoot := by
  rintro N X K av h hK ⟨w, s, f, rfl, rfl, hf, hp, hq, h2⟩
  obtain ⟨b1, b2, b3, b4, b5, b6, b7, b8, b9, b10, b11, b12⟩ := fbase hf
  obtain ⟨c1, c2, c3⟩ := cyc_dv2 hf
  obtain ⟨n, hn⟩ : ∃ n, n = fN f := ⟨_, rfl⟩
  have hlen64 : ∀ m, m ≤ n → (dl n m).length < 64 := fun m hm => Nat.lt_of_le_of_lt (dl_len m n hm) (by rw [← dvs_dl, hn]; exact c1)
  have hall : ∀ m k, m ≤ n → k ∈ dl n m → cycAll.contains k = true := fun m k hm hk => cyc_dv hf (by rw [← hn]; exact dl_in hm hk)
  have hgm : ∀ m i, i < (dl n m).length → (dl n m).getD i 0 ∈ dl n m := fun m i hi => by
    rw [List.getD_eq_getElem?_getD, List.getElem?_eq_getElem hi]
    exact List.getElem_mem hi
  -- the last one is the root's
  have loopE : ∀ i : Nat, i ≤ fD f + 1 → ∀ (s' : RS) (o2 o3 : Option MV), FR [14, 15, 23] [21, 22] [16, 17, 20] s s' → s'.1 14 = (fN f : Nat) → s'.1 15 = (fD f : Nat) → (∃ L : Nat, s'.1 23 = ((L + 1 : Nat) : Int) ∧ L < 63 ∧ ∀ j : Nat, j ≤ fD f → s'.2.2 20 (512 * (L : Int) + j) = ph f j) → (∀ j : Nat, j < i → s'.2.2 16 (j : Int) = ph f j) → K 220 [some (mR 1000), some (mI i), o2, o3] [] (hR w s') 0 0 := by
    refine mm_for (fD f + 1) (fun s' o2 o3 hF h14 h15 hL h16 => ?_) (fun i hi ih s' o2 o3 hF h14 h15 hL h16 => ?_)
    · refine hK [220] _ _ _ _ _ _ ?_
      refine And.intro (fun _ => ?_) (fun q => absurd q (by omega))
      exact h2 s' hF ⟨hf, h14, h15, fun j hj => h16 j (by omega)⟩
    · have hL0 := hL
      obtain ⟨L, h23, hL63, hLk⟩ := hL
      refine hK [220] _ _ _ _ _ _ ?_
      refine And.intro (fun q => absurd q (by omega)) (fun _ => ?_)
      refine And.intro (rng_of (by omega) (by omega)) ?_
      refine And.intro (rng_of (by omega) (by omega)) ?_
      refine And.intro (rng_of (by omega) (by omega)) ?_
      refine And.intro (by omega) ?_
      refine And.intro (by omega) ?_
      refine And.intro (rng_of (by omega) (by omega)) ?_
      refine ih (sL s' 16 (mm_updL (s'.2.2 16) (i : Int) (s'.2.2 20 (512 * (s'.1 23 - 1) + i)))) o2 o3 (FR_L hF rfl) h14 h15 hL0 (fun j hj => ?_)
      show mm_updL (s'.2.2 16) (i : Int) (s'.2.2 20 (512 * (s'.1 23 - 1) + i)) (j : Int) = _
      unfold mm_updL
      by_cases q : j = i
      · rw [if_pos (by omega), show s'.1 23 - 1 = (L : Int) by omega, hLk i (by omega), q]
      · rw [if_neg (by omega)]
        exact h16 j (by omega)
  -- each divisor
  have loopM : ∀ m : Nat, m ≤ n → ∀ (s' : RS) (o2 o3 : Option MV), FR [14, 15, 23] [21, 22] [16, 17, 20] s s' → KN n m s' → K 22 [some (mR 1000), some (mI ((m + 1 : Nat) : Int)), o2, o3] [] (hR w s') 0 0 := by
    refine mm_for n (fun s' o2 o3 hF hKN => ?_) (fun m hm ih s' o2 o3 hF hKN => ?_)
    · obtain ⟨k14, k23, kk⟩ := hKN
      have hlast : (dl n n).length ≠ 0 := by
        obtain ⟨k, hk⟩ : ∃ k, n = k + 1 := ⟨n - 1, by omega⟩
        rw [hk, dl_s, if_pos (by simp)]
        simp
      have hl64 := hlen64 n (Nat.le_refl _)
      obtain ⟨L, hL⟩ : ∃ L, (dl n n).length = L + 1 := ⟨(dl n n).length - 1, by omega⟩
      have hgl : (dl n n).getD L 0 = n := by
        obtain ⟨k, hk⟩ : ∃ k, n = k + 1 := ⟨n - 1, by omega⟩
        have e1 : dl n n = dl n k ++ [n] := by
          conv => lhs; rw [hk]
          rw [← hk, hk, dl_s, if_pos (by simp)]
        rw [e1] at hL ⊢
        rw [List.length_append] at hL
        simp at hL
        rw [List.getD_eq_getElem?_getD, List.getElem?_append_right (by omega), show L - (dl n k).length = 0 by omega]
        rfl
      have kl := kk L (by omega)
      rw [hgl, hn, c2] at kl
      refine hK [22, 220] _ _ _ _ _ _ ?_
      refine And.intro (fun _ => ?_) (fun q => absurd q (by omega))
      refine And.intro (rng_of (by omega) (by omega)) ?_
      refine And.intro (by omega) ?_
      conv => whnf
      refine loopE 0 (by omega) (sI s' 15 (s'.2.1 22 (s'.1 23 - 1))) o2 o3 (FR_I hF rfl) (by rw [← hn]; exact k14) (by rw [k23, hL, show ((L + 1 : Nat) : Int) - 1 = (L : Int) by omega]; exact kl.2.1) ⟨L, by rw [← hL]; exact k23, by omega, fun j hj => ?_⟩ (fun j hj => by omega)
      show s'.2.2 20 (512 * (L : Int) + j) = Int64.ofInt (fphi f j)
      rw [← c3 j hj]
      exact kl.2.2 j hj
    · obtain ⟨k14, k23, kk⟩ := hKN
      have hl64 := hlen64 m (by omega)
      by_cases hdv : n % (m + 1) = 0
      · have hmem : m + 1 ∈ dl n (m + 1) := by rw [dl_s, if_pos hdv]; simp
        obtain ⟨x1, x2, x3, x4, x5⟩ := cyc_at (hall (m + 1) (m + 1) (by omega) hmem)
        -- what is left is kept
        have loopC : ∀ i : Nat, i ≤ cycD (m + 1) + 1 → ∀ s' : RS, FR [14, 15, 23] [21, 22] [16, 17, 20] s s' → KN n m s' → s'.2.1 21 ((dl n m).length : Int) = ((m + 1 : Nat) : Int) → s'.2.1 22 ((dl n m).length : Int) = (cycD (m + 1) : Nat) → (∀ j : Nat, j ≤ cycD (m + 1) → s'.2.2 17 (j : Int) = Int64.ofInt (cyc (m + 1) j)) → (∀ j : Nat, j < i → s'.2.2 20 (512 * ((dl n m).length : Int) + j) = Int64.ofInt (cyc (m + 1) j)) → K 155 [some (mR 1000), some (mI ((m + 1 : Nat) : Int)), some (mI (cycD (m + 1) : Nat)), some (mI i)] [] (hR w s') 0 0 := by
          refine mm_for (cycD (m + 1) + 1) (fun s' hF hKN h21 h22 h17 h20 => ?_) (fun i hi ihc s' hF hKN h21 h22 h17 h20 => ?_)
          · obtain ⟨k14, k23, kk⟩ := hKN
            refine hK [22, 155] _ _ _ _ _ _ ?_
            refine And.intro (fun _ => ?_) (fun q => absurd q (by omega))
            refine And.intro (rng_of (by omega) (by omega)) ?_
            refine And.intro (rng_of (by omega) (by omega)) ?_
            refine ih (sI s' 23 (s'.1 23 + 1)) _ _ (FR_I hF rfl) ⟨k14, ?_, fun i hi => ?_⟩
            · show s'.1 23 + 1 = _
              rw [k23, dl_s, if_pos hdv, List.length_append]
              rfl
            · rw [dl_s, if_pos hdv] at hi ⊢
              rw [List.length_append] at hi
              simp at hi
              by_cases q : i = (dl n m).length
              · subst q
                have e1 : (dl n m ++ [m + 1]).getD (dl n m).length 0 = m + 1 := by
                  rw [List.getD_eq_getElem?_getD, List.getElem?_append_right (by omega), Nat.sub_self]
                  rfl
                rw [e1]
                exact ⟨h21, h22, fun j hj => h20 j (by omega)⟩
              · have e1 : (dl n m ++ [m + 1]).getD i 0 = (dl n m).getD i 0 := by
                  rw [List.getD_eq_getElem?_getD, List.getElem?_append_left (by omega), List.getD_eq_getElem?_getD]
                rw [e1]
                exact kk i (by omega)
          · obtain ⟨k14, k23, kk⟩ := hKN
            refine hK [22, 155] _ _ _ _ _ _ ?_
            refine And.intro (fun q => absurd q (by omega)) (fun _ => ?_)
            refine And.intro (rng_of (by omega) (by omega)) ?_
            refine And.intro (rng_of (by omega) (by omega)) ?_
            refine And.intro (by omega) ?_
            refine And.intro (by omega) ?_
            refine And.intro (rng_of (by omega) (by omega)) ?_
            conv => whnf
            rw [k23]
            refine ihc (sL s' 20 (mm_updL (s'.2.2 20) (512 * ((dl n m).length : Int) + i) (s'.2.2 17 (i : Int)))) (FR_L hF rfl) ⟨k14, k23, fun i2 hi2 => ?_⟩ h21 h22 h17 (fun j hj => ?_)
            · obtain ⟨a1, a2, a3⟩ := kk i2 hi2
              refine ⟨a1, a2, fun j hj => ?_⟩
              have y4 := (cyc_at (hall m _ (by omega) (hgm m i2 hi2))).2.2.2.1
              show mm_updL (s'.2.2 20) (512 * ((dl n m).length : Int) + i) (s'.2.2 17 (i : Int)) (512 * (i2 : Int) + j) = _
              unfold mm_updL
              rw [if_neg (by omega)]
              exact a3 j hj
            · show mm_updL (s'.2.2 20) (512 * ((dl n m).length : Int) + i) (s'.2.2 17 (i : Int)) (512 * ((dl n m).length : Int) + j) = _
              unfold mm_updL
              by_cases q : j = i
              · rw [if_pos (by omega), q]
                exact h17 i (by omega)
              · rw [if_neg (by omega)]
                exact h20 j (by omega)
        -- the known ones are divided out
        have loopD : ∀ its : Nat, its ≤ (dl n m).length → ∀ s' : RS, FR [14, 15, 23] [21, 22] [16, 17, 20] s s' → KN n m s' → degS (rst n (m + 1) its) ≤ 506 → (∀ e : Nat, e ≤ degS (rst n (m + 1) its) → s'.2.2 17 (e : Int) = Int64.ofInt ((prodP (rst n (m + 1) its)).getD e 0)) → K 86 [some (mR 1000), some (mI ((m + 1 : Nat) : Int)), some (mI (degS (rst n (m + 1) its) : Nat)), some (mI its)] [] (hR w s') 0 0 := by
          refine mm_for (dl n m).length (fun s' hF hKN hdg h17 => ?_) (fun its hi ihd s' hF hKN hdg h17 => ?_)
          · obtain ⟨k14, k23, kk⟩ := hKN
            rw [rst_end (by exact Nat.le_refl _)] at h17 ⊢
            have hds : degS [m + 1] = cycD (m + 1) := by show cycD (m + 1) + 0 = _; omega
            rw [hds] at h17 ⊢
            refine hK [86, 155] _ _ _ _ _ _ ?_
            refine And.intro (fun _ => ?_) (fun q => absurd q (by omega))
            refine And.intro (by omega) ?_
            refine And.intro (by omega) ?_
            conv => whnf
            rw [k23]
            refine loopC 0 (by omega) (sA (sA s' 21 (mm_upd (s'.2.1 21) ((dl n m).length : Int) ((m + 1 : Nat) : Int))) 22 (mm_upd (s'.2.1 22) ((dl n m).length : Int) (cycD (m + 1) : Nat))) (FR_A (FR_A hF rfl) rfl) ⟨k14, k23, fun i2 hi2 => ?_⟩ ?_ ?_ (fun j hj => ?_) (fun j hj => by omega)
            · obtain ⟨a1, a2, a3⟩ := kk i2 hi2
              refine ⟨?_, ?_, a3⟩
              · show mm_upd (s'.2.1 21) ((dl n m).length : Int) ((m + 1 : Nat) : Int) (i2 : Int) = _
                unfold mm_upd
                rw [if_neg (by omega)]
                exact a1
              · show mm_upd (s'.2.1 22) ((dl n m).length : Int) (cycD (m + 1) : Nat) (i2 : Int) = _
                unfold mm_upd
                rw [if_neg (by omega)]
                exact a2
            · show mm_upd (s'.2.1 21) ((dl n m).length : Int) ((m + 1 : Nat) : Int) ((dl n m).length : Int) = _
              unfold mm_upd
              rw [if_pos rfl]
            · show mm_upd (s'.2.1 22) ((dl n m).length : Int) (cycD (m + 1) : Nat) ((dl n m).length : Int) = _
              unfold mm_upd
              rw [if_pos rfl]
            · show s'.2.2 17 (j : Int) = _
              rw [h17 j hj]
              show Int64.ofInt ((cycL (m + 1)).getD j 0) = _
              rw [cyc_lo hj]
          · obtain ⟨k14, k23, kk⟩ := hKN
            obtain ⟨a1, a2, a3⟩ := kk its hi
            have hme := hgm m its hi
            have hge := dl_mem hme
            obtain ⟨y1, y2, y3, y4, y5⟩ := cyc_at (hall m _ (by omega) hme)
            have hs := rst_s (n := n) (m := m + 1) (its := its) hi
            rw [show m + 1 - 1 = m by omega] at hs
            obtain ⟨dd, hdd⟩ : ∃ dd, dd = (dl n m).getD its 0 := ⟨_, rfl⟩
            rw [← hdd] at hs a1 a2 a3 hge y3 y4
            refine hK [86, 155] _ _ _ _ _ _ ?_
            refine And.intro (fun q => absurd q (by omega)) (fun _ => ?_)
            refine And.intro (by omega) ?_
            conv => whnf
            rw [a1]
            refine And.intro (dv_ok (by omega) (by omega)) ?_
            rw [tmn]
            refine And.intro (fun q => ?_) (fun q => ?_)
            · have q0 : (m + 1) % dd = 0 := by omega
              rw [if_pos q0] at hs
              have hs2 : rst n (m + 1) its = dd :: rst n (m + 1) (its + 1) := hs
              rw [hs2] at h17 hdg ⊢
              have hds : degS (dd :: rst n (m + 1) (its + 1)) = cycD dd + degS (rst n (m + 1) (its + 1)) := rfl
              rw [hds] at h17 hdg ⊢
              refine ⟨w, s', cycD dd + degS (rst n (m + 1) (its + 1)), its, cycD dd, fun i => (prodP (rst n (m + 1) (its + 1))).getD i 0, fun i => (cycL dd).getD i 0, rfl, rfl, by omega, by omega, by omega, by omega, a2, fun j hj => ?_, ?_, fun j hj => cyc_hi hj, fun e he => ?_, fun v hv => ?_⟩
              · rw [a3 j (by omega)]
                show _ = Int64.ofInt ((cycL dd).getD j 0)
                rw [cyc_lo (by omega)]
              · show (cycL dd).getD (cycD dd) 0 = 1
                rw [cyc_lo (Nat.le_refl _)]
                exact y3
              · rw [h17 e he, prod_step (rst_ne _ _ _), show cycD dd + degS (rst n (m + 1) (its + 1)) - cycD dd = degS (rst n (m + 1) (its + 1)) by omega]
              · refine And.intro (by omega) ?_
                conv => whnf
                rw [show (sL s' 17 v).2.1 22 (its : Int) = _ from a2]
                rw [csub (by omega)]
                refine And.intro (rng_nat (by omega)) ?_
                refine And.intro (rng_of (by omega) (by omega)) ?_
                rw [show cycD dd + degS (rst n (m + 1) (its + 1)) - cycD dd = degS (rst n (m + 1) (its + 1)) by omega]
                refine ihd (sL s' 17 v) (FR_L hF rfl) ⟨k14, k23, kk⟩ (by omega) (fun e he => ?_)
                exact hv e (by omega)
            · have q0 : ¬ (m + 1) % dd = 0 := by omega
              rw [if_neg q0] at hs
              have hs2 : rst n (m + 1) its = rst n (m + 1) (its + 1) := hs
              rw [hs2] at h17 hdg ⊢
              refine And.intro (rng_of (by omega) (by omega)) ?_
              exact ihd s' hF ⟨k14, k23, kk⟩ hdg h17
        -- nothing but the ends
        have loopZ : ∀ i : Nat, i ≤ 1024 → ∀ (s' : RS) (o3 : Option MV), FR [14, 15, 23] [21, 22] [16, 17, 20] s s' → KN n m s' → (∀ j : Nat, j < i → s'.2.2 17 (j : Int) = 0) → K 44 [some (mR 1000), some (mI ((m + 1 : Nat) : Int)), some (mI i), o3] [] (hR w s') 0 0 := by
          refine mm_for 1024 (fun s' o3 hF hKN h17 => ?_) (fun i hi ihz s' o3 hF hKN h17 => ?_)
          · refine hK [44, 86] _ _ _ _ _ _ ?_
            refine And.intro (fun _ => ?_) (fun q => absurd q (by omega))
            refine And.intro (by omega) ?_
            refine And.intro (by omega) ?_
            have hs0 := rst_0 (n := n) (m := m + 1) (by omega) hdv
            have hdg : degS (rst n (m + 1) 0) = m + 1 := by rw [hs0, x5]
            have hst := cyc_start (m := m + 1) (by omega) (hall (m + 1) (m + 1) (by omega) hmem)
            have fin := loopD 0 (by omega) (sL s' 17 (mm_updL (mm_updL (s'.2.2 17) 0 (-1)) ((m + 1 : Nat) : Int) 1)) (FR_L hF rfl) hKN (by omega) (fun e he => ?_)
            · rw [hdg] at fin
              exact fin
            · rw [hs0, ← hst e, xm1_get (by omega) (by omega)]
              show mm_updL (mm_updL (s'.2.2 17) 0 (-1)) ((m + 1 : Nat) : Int) 1 (e : Int) = _
              unfold mm_updL
              by_cases qa : e = 0
              · rw [if_pos qa, if_neg (by omega), if_pos (by omega)]
                rfl
              · rw [if_neg qa]
                by_cases qb : e = m + 1
                · rw [if_pos qb, if_pos (by omega)]
                  rfl
                · rw [if_neg qb, if_neg (by omega), if_neg (by omega), h17 e (by omega)]
                  rfl
          · refine hK [44, 86] _ _ _ _ _ _ ?_
            refine And.intro (fun q => absurd q (by omega)) (fun _ => ?_)
            refine And.intro (by omega) ?_
            refine And.intro (rng_of (by omega) (by omega)) ?_
            refine ihz (sL s' 17 (mm_updL (s'.2.2 17) (i : Int) 0)) o3 (FR_L hF rfl) hKN (fun j hj => ?_)
            show mm_updL (s'.2.2 17) (i : Int) 0 (j : Int) = 0
            unfold mm_updL
            split
            · rfl
            · exact h17 j (by omega)
        refine hK [22, 44] _ _ _ _ _ _ ?_
        conv => whnf
        rw [k14]
        refine And.intro (fun q => absurd q (by omega)) (fun _ => ?_)
        conv => whnf
        rw [k14]
        refine And.intro (dv_ok (by omega) (by omega)) ?_
        rw [tmn, hdv]
        refine And.intro (fun _ => ?_) (fun q => absurd q (by omega))
        exact loopZ 0 (by omega) s' _ hF ⟨k14, k23, kk⟩ (fun j hj => by omega)
      · refine hK [22] _ _ _ _ _ _ ?_
        conv => whnf
        rw [k14]
        refine And.intro (fun q => absurd q (by omega)) (fun _ => ?_)
        conv => whnf
        rw [k14]
        refine And.intro (dv_ok (by omega) (by omega)) ?_
        rw [tmn]
        refine And.intro (fun q => absurd q (by omega)) (fun _ => ?_)
        refine And.intro (rng_of (by omega) (by omega)) ?_
        refine ih s' _ _ hF ⟨k14, ?_, ?_⟩
        · rw [dl_s, if_neg hdv, List.append_nil]; exact k23
        · rw [dl_s, if_neg hdv, List.append_nil]; exact kk
  refine ⟨rfl, hK [22] _ _ _ _ _ _ ?_⟩
  have hnn : (fP f : Int) * ((fQ f : Int) - 1) = (n : Int) := by rw [hn, ← b8, show (fQ f : Int) - 1 = ((fQ f - 1 : Nat) : Int) by omega, cmul]
  conv => whnf
  rw [hq]
  refine And.intro (rng_of (by omega) (by omega)) ?_
  conv => whnf
  rw [hp, hnn]
  refine And.intro (rng_of (by omega) (by omega)) ?_
  refine loopM 0 (by omega) (sI (sI s 14 (n : Int)) 23 0) _ _ (FR_I (FR_I (FR_rf s) rfl) rfl) ⟨rfl, ?_, ?_⟩
  · show (0 : Int) = _
    rfl
  · intro i hi
    rw [show dl n 0 = [] from rfl] at hi
    cases hi
theorem m_X10_layRoot (l : Launch) : mm_Met l yX10_layRoot cX10_layRoot 4 none 1 0 0 T_X10_layRoot := mm_met (E := e_X10_layRoot) (cd := kX10_layRoot) s_X10_layRoot (by decide) kX10_layRoot_ok (by decide +kernel) (by decide +kernel) (Or.inl ⟨rfl, rfl⟩) rfl (mm_eok_X10 _) (mm_calls_cons (mm_cbv wi_X10_divide (tb5 (i := 230) rfl rfl) (m_X10_divide l) (by decide) (by decide) rfl) (mm_calls_nil))
