/-! the reference: walks -/
theorem itr_lt {p dg its : Nat} (hp : 2 ≤ p) (hd : 1 ≤ dg) : ∀ n, itr (onB p dg its) n 1 < p ^ dg
  | 0 => Nat.one_lt_pow (by omega) (by omega)
  | _ + 1 => onB_lt hp hd
def T_X10_makesAll : Tr := fun av h N _ => ∃ (w : FW) (s : RS) (p dg its : Nat), av = [mR 1000, mI its] ∧ h = hR w s ∧ LGr p dg s ∧ its < p ^ dg ∧ ∀ A : Int → Int, (gdW (onB p dg its) (p ^ dg - 1) → (∀ n : Nat, n < p ^ dg - 1 → A (n : Int) = (itr (onB p dg its) n 1 : Nat)) → N (some (mI 1)) (hR w (sA s 44 A))) ∧ (¬ gdW (onB p dg its) (p ^ dg - 1) → N (some (mI 0)) (hR w (sA s 44 A)))
abbrev e_X10_makesAll : NE := (ftX10, [(448, (3, 0, 0, false, (0, 10), T_X10_onByOne))], ltX10, [], [], false, 2, (0, 0), [], [], [], false)
set_option maxHeartbeats 4000000 in
theorem s_X10_makesAll : mm_Spec e_X10_makesAll kX10_makesAll 4 T_X10_makesAll := by
  rintro N X K av h hK ⟨w, s, p, dg, its, rfl, rfl, ⟨e2, e47, e48, hp1, hp2, hd, hz⟩, hi, h2⟩
  have h1p : 1 < p ^ dg := Nat.one_lt_pow (by omega) (by omega)
  obtain ⟨m, hm⟩ : ∃ m, m = p ^ dg - 1 := ⟨_, rfl⟩
  rw [← hm] at h2
  obtain ⟨st, hst⟩ : ∃ st, st = onB p dg its := ⟨_, rfl⟩
  have hlt : ∀ n, itr st n 1 < p ^ dg := fun n => by rw [hst]; exact itr_lt hp1 hd n
  rw [← hst] at h2
  have e47' : ∀ A : Int → Int, (sA s 44 A).1 47 = ((p ^ dg : Nat) : Int) := fun _ => e47
  have body : ∀ (i : Nat), i < m → (∀ A : Int → Int, (∀ j, 0 < j → j < i + 1 → 2 ≤ itr st j 1) → (∀ n : Nat, n < i + 1 → A (n : Int) = (itr st n 1 : Nat)) → K 4 [some (mR 1000), some (mI its), some (mI (itr st (i + 1) 1 : Nat)), some (mI (i + 1 : Nat))] [] (hR w (sA s 44 A)) 0 0) → ∀ A : Int → Int, (∀ j, 0 < j → j < i + 1 → 2 ≤ itr st j 1) → (∀ n : Nat, n < i → A (n : Int) = (itr st n 1 : Nat)) → K 29 [some (mR 1000), some (mI its), some (mI (itr st i 1 : Nat)), some (mI i)] [] (hR w (sA s 44 A)) 0 0 := by
    intro i hi2 ih A hA1 hA2
    have := hlt i
    refine hK [4] _ _ _ _ _ _ ?_
    refine And.intro (by omega) ?_
    refine ⟨w, sA s 44 (mm_upd A (i : Int) (itr st i 1 : Nat)), p, dg, its, itr st i 1, rfl, rfl, ⟨e2, e47, e48, hp1, hp2, hd, hz⟩, hlt i, hi, ?_⟩
    rw [← hst]
    refine And.intro (rng_of (by omega) (by omega)) ?_
    refine ih (mm_upd A (i : Int) (itr st i 1 : Nat)) hA1 (fun n hn => ?_)
    unfold mm_upd
    by_cases q : n = i
    · rw [if_pos (by omega), q]
    · rw [if_neg (by omega)]
      exact hA2 n (by omega)
  have loop : ∀ i : Nat, i ≤ m → ∀ A : Int → Int, (∀ j, 0 < j → j < i → 2 ≤ itr st j 1) → (∀ n : Nat, n < i → A (n : Int) = (itr st n 1 : Nat)) → K 4 [some (mR 1000), some (mI its), some (mI (itr st i 1 : Nat)), some (mI i)] [] (hR w (sA s 44 A)) 0 0 := by
    refine mm_for m (fun A hA1 hA2 => ?_) (fun i hi2 ih A hA1 hA2 => ?_)
    · refine hK [4] _ _ _ _ _ _ ?_
      conv => whnf
      rw [e47']
      refine And.intro (rng_of (by omega) (by omega)) ?_
      refine And.intro (fun _ => ?_) (fun q => absurd q (by omega))
      refine And.intro (fun q => ?_) (fun q => ?_)
      · exact And.intro (Or.inl rfl) ((h2 A).2 (fun z => q (by rw [z.1]; rfl)))
      · exact And.intro (Or.inr rfl) ((h2 A).1 ⟨by omega, hA1⟩ hA2)
    · refine hK [4, 29] _ _ _ _ _ _ ?_
      conv => whnf
      rw [e47']
      refine And.intro (rng_of (by omega) (by omega)) ?_
      refine And.intro (fun q => absurd q (by omega)) (fun _ => ?_)
      refine And.intro (fun q => ?_) (fun q => ?_)
      · have hi0 : i = 0 := by omega
        subst hi0
        exact body 0 hi2 ih A (fun j h3 h4 => by omega) hA2
      · refine And.intro (fun q2 => ?_) (fun q2 => ?_)
        · exact And.intro (Or.inl rfl) ((h2 A).2 (fun z => by have := z.2 i (by omega) hi2; omega))
        · refine And.intro (fun q3 => ?_) (fun q3 => ?_)
          · exact body i hi2 ih A (fun j h3 h4 => by
              by_cases e : j = i
              · rw [e]; omega
              · exact hA1 j h3 (by omega)) hA2
          · exact And.intro (Or.inl rfl) ((h2 A).2 (fun z => by have := z.2 i (by omega) hi2; omega))
  refine ⟨rfl, hK [4] _ _ _ _ _ _ ?_⟩
  have h0 := loop 0 (by omega) (s.2.1 44) (fun j h3 h4 => by omega) (fun n hn => by omega)
  exact h0
theorem m_X10_makesAll (l : Launch) : mm_Met l yX10_makesAll cX10_makesAll 4 (some .boolean) 1 0 0 T_X10_makesAll := mm_met (E := e_X10_makesAll) (cd := kX10_makesAll) s_X10_makesAll (by decide) kX10_makesAll_ok (by decide +kernel) (by decide +kernel) (Or.inr (Or.inr (Or.inl ⟨rfl, rfl⟩))) rfl (mm_eok_X10 _) (mm_calls_cons (mm_cbv wi_X10_onByOne (tb8 (i := 31) rfl rfl) (m_X10_onByOne l) (by decide) (by decide) rfl) (mm_calls_nil))
