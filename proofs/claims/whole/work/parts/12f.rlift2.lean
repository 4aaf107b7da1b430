/-! the reference: lifted -/
theorem it_c : (List.range 15).all (fun f => (List.range 13).all (fun s => Nat.beq s 0 || (!(Nat.ble (fQ f ^ s) 4096) || (Nat.blt (rIt f s) (fQ f ^ s) && Nat.blt 0 (rIt f s))))) = true := by decide +kernel
theorem it_lt {f s : Nat} (hf : f < 15) (h1 : 1 ≤ s) (hq : fQ f ^ s ≤ 4096) : rIt f s < fQ f ^ s ∧ 0 < rIt f s := by
  have h12 := s_12 hf hq
  have h := List.all_eq_true.mp (List.all_eq_true.mp it_c f (List.mem_range.mpr hf)) s (List.mem_range.mpr (by omega))
  rw [beq_f (by omega), Nat.ble_eq_true_of_le hq] at h
  have h : (Nat.blt (rIt f s) (fQ f ^ s) && Nat.blt 0 (rIt f s)) = true := h
  rw [Bool.and_eq_true] at h
  exact ⟨mm_blt_t h.1, mm_blt_t h.2⟩
theorem cnt_st {b : Nat → Nat} {i v : Nat} {B : Int → Int} {z x : Nat} (hx : b i = x) (hB : B (v : Int) = (z + cntB (fun j => Nat.beq (b j) v) i : Nat)) : mm_upd B (x : Int) (B (x : Int) + 1) (v : Int) = (z + cntB (fun j => Nat.beq (b j) v) (i + 1) : Nat) := by
  unfold mm_upd
  rw [cntB_s, hx]
  by_cases q : v = x
  · rw [if_pos (by omega), ← q, hB, Nat.beq_refl]
    show ((z + cntB (fun j => Nat.beq (b j) v) i : Nat) : Int) + 1 = ((z + (cntB (fun j => Nat.beq (b j) v) i + 1) : Nat) : Int)
    omega
  · rw [if_neg (by omega), hB, beq_f (fun z => q z.symm)]
    rfl
def T_X10_lifted : Tr := fun av h N _ => ∃ (w : FW) (s : RS) (a : AS) (d e t : Int), av = [mR 1000, mI d, mI e, mI t] ∧ h = hR w s ∧ RR a s ∧ mm_rng d ∧ mm_rng e ∧ mm_rng t ∧ RP w a (xLifted (aF a) d e t) N
abbrev e_X10_lifted : NE := (ftX10, [(373, (2, 0, 0, false, (0, 10), T_X10_fail)), (453, (2, 0, 0, false, (0, 10), T_X10_makesAll)), (456, (2, 0, 0, false, (0, 10), T_X10_lessLarge))], ltX10, [], [], false, 1, (0, 0), [], [], [], false)
set_option maxHeartbeats 16000000 in
theorem s_X10_lifted : mm_Spec e_X10_lifted kX10_lifted 9 T_X10_lifted := by
  rintro N X K av h hK ⟨w, s, a, d, e, t, rfl, rfl, hr, hd, he, ht, h2⟩
  obtain ⟨f, hf0⟩ : ∃ f, f = aF a := ⟨_, rfl⟩
  have hf : f < 15 := by rw [hf0]; exact hr.1.1
  have hT : RT f (sI s 1 0) := by rw [hf0]; exact hr.2.1.1
  rw [← hf0] at h2
  have hq4 : (sI s 1 0).1 4 = (fQ f : Nat) := hT.2.2.2.1
  have hq4' : s.1 4 = (fQ f : Nat) := hq4
  have hp2 : (sI s 1 0).1 2 = (fP f : Nat) := hT.2.1
  have hk3 : (sI s 1 0).1 3 = (fK f : Nat) := hT.2.2.1
  obtain ⟨b1, b2, b3, b4, b5, b6, b7, b8, b9, b10, b11, b12⟩ := fbase hf
  have hno : ¬ (1 ≤ d ∧ 1 ≤ e ∧ 1 ≤ t ∧ t ≤ 12 ∧ ((fQ f : Int) - 1) % d = 0 ∧ ((fQ f : Int) - 1) % e = 0) → K 48 [some (mR 1000), some (mI d), some (mI e), some (mI t), none, none, none, none, none] [] (hR w (sI s 1 0)) 0 0 := by
    intro z
    refine hK [] _ _ _ _ _ _ ?_
    exact ⟨w, sI s 1 0, 1, rfl, rfl, RP_fail h2 hr (if_neg (fun y => z y.1))⟩
  have hyes : (1 ≤ d ∧ 1 ≤ e ∧ 1 ≤ t ∧ t ≤ 12 ∧ ((fQ f : Int) - 1) % d = 0 ∧ ((fQ f : Int) - 1) % e = 0) → K 54 [some (mR 1000), some (mI d), some (mI e), some (mI t), none, none, none, none, none] [] (hR w (sI s 1 0)) 0 0 := by
    rintro ⟨z1, z2, z3, z4, z5, z6⟩
    obtain ⟨dn, rfl⟩ := Int.eq_ofNat_of_zero_le (show 0 ≤ d by omega)
    obtain ⟨en, rfl⟩ := Int.eq_ofNat_of_zero_le (show 0 ≤ e by omega)
    obtain ⟨tn, rfl⟩ := Int.eq_ofNat_of_zero_le (show 0 ≤ t by omega)
    have y5 : (fQ f - 1) % dn = 0 := by
      have : (((fQ f - 1 : Nat) : Int)) % (dn : Int) = 0 := by rw [show ((fQ f - 1 : Nat) : Int) = (fQ f : Int) - 1 by omega]; exact z5
      omega
    have y6 : (fQ f - 1) % en = 0 := by
      have : (((fQ f - 1 : Nat) : Int)) % (en : Int) = 0 := by rw [show ((fQ f - 1 : Nat) : Int) = (fQ f : Int) - 1 by omega]; exact z6
      omega
    have dle : dn ≤ 26 := Nat.le_trans (Nat.le_of_dvd (by omega) (Nat.dvd_of_mod_eq_zero y5)) (by omega)
    have ele : en ≤ 26 := Nat.le_trans (Nat.le_of_dvd (by omega) (Nat.dvd_of_mod_eq_zero y6)) (by omega)
    have xe : xLifted f dn en tn = if (1 ≤ (dn : Int) ∧ 1 ≤ (en : Int) ∧ 1 ≤ (tn : Int) ∧ (tn : Int) ≤ 12 ∧ ((fQ f : Int) - 1) % (dn : Int) = 0 ∧ ((fQ f : Int) - 1) % (en : Int) = 0) ∧ fQ f ^ tn ≤ 4096 then (0, (liX f tn dn en : Int)) else (1, 0) := rfl
    have big : ∀ i, i ≤ 12 → fQ f ^ i ≤ 150094635296999121 := fun i hi => by
      have g1 : fQ f ^ i ≤ 27 ^ i := Nat.pow_le_pow_left b1 i
      have g2 : 27 ^ i ≤ 27 ^ 12 := Nat.pow_le_pow_right (by omega) hi
      have g3 : 27 ^ 12 = 150094635296999121 := by decide
      omega
    obtain ⟨m, hm⟩ : ∃ m, m = fQ f ^ tn - 1 := ⟨_, rfl⟩
    have hmq : fQ f ^ tn = m + 1 := by
      have : 0 < fQ f ^ tn := Nat.pow_pos (by omega)
      omega
    have hpd : fP f ^ (fK f * tn) = m + 1 := by rw [Nat.pow_mul, b7, hmq]
    have small : fQ f ^ tn ≤ 4096 → K 97 [some (mR 1000), some (mI dn), some (mI en), some (mI tn), some (mL (Int64.ofInt ((fQ f ^ tn : Nat) : Int))), none, some (mI tn), none, none] [] (hR w (sI s 1 0)) 0 0 := by
      intro hle
      obtain ⟨w1, w2, w3⟩ := lr_all hf (show 1 ≤ tn by omega) hle
      have hit := it_lt hf (show 1 ≤ tn by omega) hle
      have hm1 : 1 ≤ m := by
        have : 1 < fQ f ^ tn := Nat.one_lt_pow (by omega) (by omega)
        omega
      rw [← hm] at w1 w2 w3
      rw [hmq] at hle hit
      have ex : xLifted f dn en tn = (0, (liX f tn dn en : Int)) := by rw [xe, if_pos ⟨⟨z1, z2, z3, z4, z5, z6⟩, by omega⟩]
      have md : m % dn = 0 := by rw [hm]; exact q1_md (by omega) y5
      have me : m % en = 0 := by rw [hm]; exact q1_md (by omega) y6
      have hlx : liX f tn dn en = sumN (fun v => rt (rLt f tn) dn v * rt (rLt f tn) en (lsL (fP f) (fK f * tn) v)) (m + 1) := by unfold liX liS; rw [← hm]
      obtain ⟨L, hL⟩ : ∃ L, L = rLt f tn := ⟨_, rfl⟩
      rw [← hL] at hlx w1
      obtain ⟨st, hst⟩ : ∃ st, st = onB (fP f) (fK f * tn) (rIt f tn) := ⟨_, rfl⟩
      rw [← hst] at w1
      obtain ⟨s2, hs2⟩ : ∃ s2, s2 = sI (sI (sI s 1 0) 47 ((m + 1 : Nat) : Int)) 48 ((fK f * tn : Nat) : Int) := ⟨_, rfl⟩
      have hLG : LGr (fP f) (fK f * tn) s2 := by
        rw [hs2]
        exact ⟨hp2, by rw [hpd]; rfl, rfl, b4, b3, Nat.mul_pos b5 (by omega), by omega⟩
      have f47 : s2.1 47 = ((m + 1 : Nat) : Int) := by rw [hs2]; rfl
      have hit1 : ∀ i, itr st i 1 < m + 1 := fun i => by rw [hst, ← hpd]; exact itr_lt b4 (Nat.mul_pos b5 (by omega)) i
      have ilt : ∀ i dd, i * dd % m < m := fun i dd => Nat.mod_lt _ (by omega)
      have done : ∀ (A B C : Int → Int), N (some (mI (liX f tn dn en : Nat))) (hR w (sA (sA (sA s2 44 A) 45 B) 46 C)) := fun A B C => by
        rw [ex] at h2
        refine h2 _ ?_ (by rw [hs2]; rfl)
        refine RR_fr hr (I := [1, 47, 48]) (A := [44, 45, 46]) (L := []) ?_ rfl rfl rfl (fun _ _ _ _ => by rw [hs2]; rfl)
        rw [hs2]
        exact FR_A (FR_A (FR_A (FR_I (FR_I (FR_I (FR_rf s) rfl) rfl) rfl) rfl) rfl) rfl
      -- the sum
      have loop5 : ∀ i : Nat, i ≤ m + 1 → ∀ (A B C : Int → Int), (∀ v : Nat, v ≤ m → B (v : Int) = (rt L dn v : Nat) ∧ C (v : Int) = (rt L en v : Nat)) → K 264 [some (mR 1000), some (mI dn), some (mI en), some (mI tn), some (mL (Int64.ofInt ((fQ f ^ tn : Nat) : Int))), none, some (mI (rIt f tn)), some (mI (sumN (fun v => rt L dn v * rt L en (lsL (fP f) (fK f * tn) v)) i : Nat)), some (mI i)] [] (hR w (sA (sA (sA s2 44 A) 45 B) 46 C)) 0 0 := by
        refine mm_for (m + 1) (fun A B C hBC => ?_) (fun i hi ih A B C hBC => ?_)
        · refine hK [264] _ _ _ _ _ _ ?_
          conv => whnf
          rw [show (sA (sA (sA s2 44 A) 45 B) 46 C).1 47 = ((m + 1 : Nat) : Int) from f47]
          refine And.intro (fun _ => ?_) (fun q => absurd q (by omega))
          rw [← hlx]
          exact done A B C
        · have hl := (w3 i hi).1
          have r1 : rt L dn i ≤ 26 := Nat.le_trans (rt_le (by omega)) dle
          have r2 : rt L en (lsL (fP f) (fK f * tn) i) ≤ 26 := Nat.le_trans (rt_le (by omega)) ele
          have r3 : rt L dn i * rt L en (lsL (fP f) (fK f * tn) i) ≤ 26 * 26 := Nat.mul_le_mul r1 r2
          have r4 : sumN (fun v => rt L dn v * rt L en (lsL (fP f) (fK f * tn) v)) i ≤ i * (26 * 26) := sumN_le (fun v => Nat.mul_le_mul (Nat.le_trans (rt_le (by omega)) dle) (Nat.le_trans (rt_le (by omega)) ele)) i
          have hi3 := ih A B C hBC
          rw [sumN_s] at hi3
          refine hK [264] _ _ _ _ _ _ ?_
          conv => whnf
          rw [show (sA (sA (sA s2 44 A) 45 B) 46 C).1 47 = ((m + 1 : Nat) : Int) from f47]
          refine And.intro (fun q => absurd q (by omega)) (fun _ => ?_)
          refine And.intro (by omega) ?_
          refine ⟨w, _, fP f, fK f * tn, i, rfl, rfl, hLG, by omega, ?_⟩
          refine And.intro (by omega) ?_
          conv => whnf
          rw [show (sA (sA (sA s2 44 A) 45 B) 46 C).2.1 45 (i : Int) = _ from (hBC i (by omega)).1, show (sA (sA (sA s2 44 A) 45 B) 46 C).2.1 46 ((lsL (fP f) (fK f * tn) i : Nat) : Int) = _ from (hBC _ (by omega)).2, cmul]
          refine And.intro (rng_nat (by omega)) ?_
          conv => whnf
          rw [cadd]
          refine And.intro (rng_nat (by omega)) ?_
          refine And.intro (rng_of (by omega) (by omega)) ?_
          exact hi3
      -- the counts
      have loop4 : ∀ i : Nat, i ≤ m → ∀ (A B C : Int → Int), (∀ n : Nat, n < m → A (n : Int) = (itr st n 1 : Nat)) → (∀ v : Nat, v ≤ m → B (v : Int) = (ind (Nat.beq v 0) + cntB (fun j => Nat.beq (itr st (j * dn % m) 1) v) i : Nat) ∧ C (v : Int) = (ind (Nat.beq v 0) + cntB (fun j => Nat.beq (itr st (j * en % m) 1) v) i : Nat)) → K 183 [some (mR 1000), some (mI dn), some (mI en), some (mI tn), some (mL (Int64.ofInt ((fQ f ^ tn : Nat) : Int))), none, some (mI (rIt f tn)), some (mI i), none] [] (hR w (sA (sA (sA s2 44 A) 45 B) 46 C)) 0 0 := by
        refine mm_for m (fun A B C hA hBC => ?_) (fun i hi ih A B C hA hBC => ?_)
        · refine hK [264] _ _ _ _ _ _ ?_
          conv => whnf
          rw [show (sA (sA (sA s2 44 A) 45 B) 46 C).1 47 = ((m + 1 : Nat) : Int) from f47]
          refine And.intro (rng_of (by omega) (by omega)) ?_
          refine And.intro (fun _ => ?_) (fun q => absurd q (by omega))
          refine loop5 0 (by omega) A B C (fun v hv => ?_)
          rw [← rt_cnt w1 hm1 (by omega) md hv, ← rt_cnt w1 hm1 (by omega) me hv]
          exact hBC v hv
        · have i1 := ilt i dn
          have i2 := ilt i en
          have q1 := hit1 (i * dn % m)
          have q2 := hit1 (i * en % m)
          have c1 := (hBC (itr st (i * dn % m) 1) (by omega)).1
          have c2 := (hBC (itr st (i * en % m) 1) (by omega)).2
          have l1 := cntB_le (fun j => Nat.beq (itr st (j * dn % m) 1) (itr st (i * dn % m) 1)) i
          have l2 := cntB_le (fun j => Nat.beq (itr st (j * en % m) 1) (itr st (i * en % m) 1)) i
          have l3 := ind_le (Nat.beq (itr st (i * dn % m) 1) 0)
          have l4 := ind_le (Nat.beq (itr st (i * en % m) 1) 0)
          have m1 : i * dn ≤ 4096 * 26 := Nat.mul_le_mul (by omega) dle
          have m2 : i * en ≤ 4096 * 26 := Nat.mul_le_mul (by omega) ele
          refine hK [183] _ _ _ _ _ _ ?_
          conv => whnf
          rw [show (sA (sA (sA s2 44 A) 45 B) 46 C).1 47 = ((m + 1 : Nat) : Int) from f47]
          refine And.intro (rng_of (by omega) (by omega)) ?_
          refine And.intro (fun q => absurd q (by omega)) (fun _ => ?_)
          conv => whnf
          rw [show (sA (sA (sA s2 44 A) 45 B) 46 C).1 47 = ((m + 1 : Nat) : Int) from f47]
          refine And.intro (rng_of (by omega) (by omega)) ?_
          conv => whnf
          rw [show ((m + 1 : Nat) : Int) - 1 = (m : Int) by omega, ← Int64.ofInt_mul, cmul]
          refine And.intro (l_ne0 (by omega) (by omega)) ?_
          rw [lrem_nat (by omega) (by omega) (by omega)]
          refine And.intro (by rw [lti (by omega)]; exact rng_nat (by omega)) ?_
          rw [lti (by omega)]
          refine And.intro (by omega) ?_
          conv => whnf
          rw [show (sA (sA (sA s2 44 A) 45 B) 46 C).2.1 44 ((i * dn % m : Nat) : Int) = _ from hA _ i1]
          refine And.intro (by omega) ?_
          conv => whnf
          rw [show (sA (sA (sA s2 44 A) 45 B) 46 C).2.1 45 ((itr st (i * dn % m) 1 : Nat) : Int) = B ((itr st (i * dn % m) 1 : Nat) : Int) from rfl]
          refine And.intro (rng_of (by omega) (by omega)) ?_
          refine And.intro (by omega) ?_
          conv => whnf
          rw [show (sA (sA (sA s2 44 A) 45 B) 46 C).1 47 = ((m + 1 : Nat) : Int) from f47]
          refine And.intro (rng_of (by omega) (by omega)) ?_
          conv => whnf
          rw [show ((m + 1 : Nat) : Int) - 1 = (m : Int) by omega, ← Int64.ofInt_mul, cmul]
          refine And.intro (l_ne0 (by omega) (by omega)) ?_
          rw [lrem_nat (by omega) (by omega) (by omega)]
          refine And.intro (by rw [lti (by omega)]; exact rng_nat (by omega)) ?_
          rw [lti (by omega)]
          refine And.intro (by omega) ?_
          conv => whnf
          rw [show (sA (sA (sA s2 44 A) 45 B) 46 C).2.1 44 ((i * en % m : Nat) : Int) = _ from hA _ i2]
          refine And.intro (by omega) ?_
          conv => whnf
          rw [show (sA (sA (sA s2 44 A) 45 B) 46 C).2.1 46 ((itr st (i * en % m) 1 : Nat) : Int) = C ((itr st (i * en % m) 1 : Nat) : Int) from rfl]
          refine And.intro (rng_of (by omega) (by omega)) ?_
          refine And.intro (by omega) ?_
          refine And.intro (rng_of (by omega) (by omega)) ?_
          exact ih A (mm_upd B ((itr st (i * dn % m) 1 : Nat) : Int) (B ((itr st (i * dn % m) 1 : Nat) : Int) + 1)) (mm_upd C ((itr st (i * en % m) 1 : Nat) : Int) (C ((itr st (i * en % m) 1 : Nat) : Int) + 1)) hA (fun v hv => ⟨cnt_st (b := fun j => itr st (j * dn % m) 1) rfl (hBC v hv).1, cnt_st (b := fun j => itr st (j * en % m) 1) rfl (hBC v hv).2⟩)
      -- zeros
      have loop3 : ∀ i : Nat, i ≤ m + 1 → ∀ (A B C : Int → Int), (∀ n : Nat, n < m → A (n : Int) = (itr st n 1 : Nat)) → (∀ v : Nat, v < i → B (v : Int) = 0 ∧ C (v : Int) = 0) → K 135 [some (mR 1000), some (mI dn), some (mI en), some (mI tn), some (mL (Int64.ofInt ((fQ f ^ tn : Nat) : Int))), none, some (mI (rIt f tn)), some (mI i), none] [] (hR w (sA (sA (sA s2 44 A) 45 B) 46 C)) 0 0 := by
        refine mm_for (m + 1) (fun A B C hA hBC => ?_) (fun i hi ih A B C hA hBC => ?_)
        · refine hK [183] _ _ _ _ _ _ ?_
          conv => whnf
          rw [show (sA (sA (sA s2 44 A) 45 B) 46 C).1 47 = ((m + 1 : Nat) : Int) from f47]
          refine And.intro (fun _ => ?_) (fun q => absurd q (by omega))
          refine And.intro (by omega) ?_
          refine And.intro (by omega) ?_
          refine loop4 0 (by omega) A (mm_upd B 0 1) (mm_upd C 0 1) hA (fun v hv => ?_)
          have := hBC v (by omega)
          unfold mm_upd
          by_cases q : v = 0
          · subst q; exact ⟨rfl, rfl⟩
          · rw [if_neg (by omega), if_neg (by omega), beq_f q]
            exact this
        · refine hK [135] _ _ _ _ _ _ ?_
          conv => whnf
          rw [show (sA (sA (sA s2 44 A) 45 B) 46 C).1 47 = ((m + 1 : Nat) : Int) from f47]
          refine And.intro (fun q => absurd q (by omega)) (fun _ => ?_)
          refine And.intro (by omega) ?_
          refine And.intro (by omega) ?_
          refine And.intro (rng_of (by omega) (by omega)) ?_
          refine ih A (mm_upd B (i : Int) 0) (mm_upd C (i : Int) 0) hA (fun v hv => ?_)
          unfold mm_upd
          by_cases q : v = i
          · rw [if_pos (by omega), if_pos (by omega)]; exact ⟨rfl, rfl⟩
          · rw [if_neg (by omega), if_neg (by omega)]
            exact hBC v (by omega)
      have loop2 : ∀ (k its : Nat) (A : Int → Int), its + k = rIt f tn → 1 ≤ its → K 117 [some (mR 1000), some (mI dn), some (mI en), some (mI tn), some (mL (Int64.ofInt ((fQ f ^ tn : Nat) : Int))), none, some (mI its), none, none] [] (hR w (sA s2 44 A)) 0 0 := by
        intro k
        induction k with
        | zero =>
          intro its A hk h1
          have : its = rIt f tn := by omega
          subst this
          refine hK [135] _ _ _ _ _ _ ?_
          refine ⟨w, sA s2 44 A, fP f, fK f * tn, rIt f tn, rfl, rfl, hLG, by omega, fun A' => ⟨fun hg hA => ?_, fun hn => ?_⟩⟩
          · refine And.intro (fun _ => ?_) (fun q => absurd q (by omega))
            rw [hpd, Nat.add_sub_cancel, ← hst] at hA
            have h0 := loop3 0 (by omega) A' (s2.2.1 45) (s2.2.1 46) hA (fun v hv => absurd hv (Nat.not_lt_zero v))
            exact h0
          · rw [hpd, Nat.add_sub_cancel, ← hst] at hn
            exact absurd (WL_gd w1 hm1) hn
        | succ k ih =>
          intro its A hk h1
          refine hK [117] _ _ _ _ _ _ ?_
          refine ⟨w, sA s2 44 A, fP f, fK f * tn, its, rfl, rfl, hLG, by omega, fun A' => ⟨fun hg hA => ?_, fun hn => ?_⟩⟩
          · rw [hpd, Nat.add_sub_cancel] at hg
            exact absurd hg (w2 its h1 (by omega))
          · refine And.intro (fun q => absurd q (by omega)) (fun _ => ?_)
            refine And.intro (rng_of (by omega) (by omega)) ?_
            exact ih (its + 1) A' (by omega) (by omega)
      refine hK [117] _ _ _ _ _ _ ?_
      refine And.intro (by rw [lti (by omega)]; exact rng_nat (by omega)) ?_
      conv => whnf
      rw [lti (by omega), hk3, cmul]
      have hkt : fK f * tn ≤ 4 * 12 := Nat.mul_le_mul b6 (by omega)
      refine And.intro (rng_nat (by omega)) ?_
      have h0 := loop2 (rIt f tn - 1) 1 (s2.2.1 44) (by omega) (by omega)
      rw [hs2, ← hmq] at h0
      exact h0
    have loop1 : ∀ i : Nat, i ≤ tn → K 60 [some (mR 1000), some (mI dn), some (mI en), some (mI tn), some (mL (Int64.ofInt ((fQ f ^ i : Nat) : Int))), none, some (mI i), none, none] [] (hR w (sI s 1 0)) 0 0 := by
      refine mm_for tn ?_ (fun i hi ih => ?_)
      · have hb12 := big tn (by omega)
        refine hK [97] _ _ _ _ _ _ ?_
        refine And.intro (fun _ => ?_) (fun q => absurd q (by omega))
        refine And.intro (fun q => ?_) (fun q => ?_)
        · have q2 := (cmp_le _ _).mp q
          rw [lti (by omega)] at q2
          have q2 : ((fQ f ^ tn : Nat) : Int) ≤ 4096 := q2
          exact small (by omega)
        · have q2 : ¬ ((fQ f ^ tn : Nat) : Int) ≤ 4096 := fun z => absurd ((cmp_le (Int64.ofInt ((fQ f ^ tn : Nat) : Int)) 4096).mpr (by rw [lti (by omega)]; exact z)) (by omega)
          exact ⟨w, sI s 1 0, 1, rfl, rfl, RP_fail h2 hr (by rw [xe, if_neg (fun y => by have := y.2; omega)])⟩
      · refine hK [60] _ _ _ _ _ _ ?_
        refine And.intro (fun q => absurd q (by omega)) (fun _ => ?_)
        conv => whnf
        rw [hq4, ← Int64.ofInt_mul, cmul, show fQ f ^ i * fQ f = fQ f ^ (i + 1) from rfl]
        refine And.intro (rng_of (by omega) (by omega)) ?_
        exact ih
    refine hK [60] _ _ _ _ _ _ ?_
    exact loop1 0 (by omega)
  refine ⟨rfl, hK [48, 54] _ _ _ _ _ _ ?_⟩
  refine And.intro (fun q => hno (by omega)) (fun q1 => ?_)
  refine And.intro (fun q => hno (by omega)) (fun q2 => ?_)
  refine And.intro (fun q => hno (by omega)) (fun q3 => ?_)
  refine And.intro (fun q => hno (by omega)) (fun q4 => ?_)
  obtain ⟨dn, rfl⟩ := Int.eq_ofNat_of_zero_le (show 0 ≤ d by omega)
  obtain ⟨en, rfl⟩ := Int.eq_ofNat_of_zero_le (show 0 ≤ e by omega)
  have e1 : (fQ f : Int) - 1 = ((fQ f - 1 : Nat) : Int) := by omega
  conv => whnf
  rw [hq4', e1]
  refine And.intro (rng_nat (by omega)) ?_
  refine And.intro (dv_ok (by omega) (by omega)) ?_
  rw [tmn]
  refine And.intro (fun q => hno (fun z => q (by have := z.2.2.2.2.1; rw [e1] at this; exact this))) (fun q5 => ?_)
  conv => whnf
  rw [hq4', e1]
  refine And.intro (rng_nat (by omega)) ?_
  refine And.intro (dv_ok (by omega) (by omega)) ?_
  rw [tmn]
  refine And.intro (fun q6 => hyes ⟨by omega, by omega, by omega, by omega, ?_, ?_⟩) (fun q => hno (fun z => q (by have := z.2.2.2.2.2; rw [e1] at this; exact this)))
  · rw [e1]; exact q5
  · rw [e1]; exact q6
theorem m_X10_lifted (l : Launch) : mm_Met l yX10_lifted cX10_lifted 9 (some .int) 2 0 0 T_X10_lifted := mm_met (E := e_X10_lifted) (cd := kX10_lifted) s_X10_lifted (by decide) kX10_lifted_ok (by decide +kernel) (by decide +kernel) (Or.inr (Or.inl ⟨rfl, rfl⟩)) rfl (mm_eok_X10 _) (mm_calls_cons (mm_cbv wi_X10_fail (tb6 (i := 180) rfl rfl) (m_X10_fail l) (by decide) (by decide) rfl) (mm_calls_cons (mm_cbv wi_X10_makesAll (tb8 (i := 27) rfl rfl) (m_X10_makesAll l) (by decide) (by decide) rfl) (mm_calls_cons (mm_cbv wi_X10_lessLarge (tb8 (i := 35) rfl rfl) (m_X10_lessLarge l) (by decide) (by decide) rfl) (mm_calls_nil))))
