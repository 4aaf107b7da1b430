/-! the component: telling -/
/-- 0: the answer; 1: IllegalArgumentException -/
def CPi (M : List ME) (a : AS) (p : Nat × Int) (N : Option MV → HP → Prop) (X : String → HP → Prop) : Prop := (p.1 = 0 → ∀ c : CS, CR a c → N (some (mI p.2)) (hC (none, M) c)) ∧ (p.1 = 1 → ∀ c : CS, CR a c → X xI (hC (none, M) c))
theorem CR_a1 {a : AS} {c c2 : CS} (h : CR a c) (hF : FC (15 :: IR) IA [] (kI c 24 0) c2) {v : Int} (hv : -1 ≤ v ∧ v ≤ 200) : CR (aSetF (aSetT a 0 (aTt a)) v) (kI c2 25 v) := by
  obtain ⟨g1, ⟨g2, g3⟩, g4, g6, g7, g8, g10, g11, g12⟩ := h
  have hG : FC (24 :: 25 :: 15 :: IR) IA [] c (kI c2 25 v) := FC_I (FC_tr (FC_I (FC_rf c) rfl) hF rfl rfl rfl) rfl
  refine ⟨⟨g1.1, g1.2.1, g1.2.2.1, Nat.zero_le _, fun i hi => absurd hi (Nat.not_lt_zero i), hv, g1.2.2.2.2.2.2⟩, ⟨CF_fr g2 hG rfl rfl, CG_fr g3 hG rfl rfl⟩, ⟨?_, ?_, TW_fr g4.2.2 hG rfl rfl rfl⟩, ?_, ?_, ⟨?_, fun i hi => absurd hi (Nat.not_lt_zero i)⟩, rfl, ?_, ?_⟩
  · rw [hG.1 4 rfl]; exact g4.1
  · rw [hG.1 5 rfl]; exact g4.2.1
  · intro i t hi ht
    rw [hG.2.2.2]; exact g6 i t hi ht
  · intro x hx
    rw [hG.2.1 16 rfl]; exact g7 x hx
  · show c2.1 24 = _
    rw [hF.1 24 rfl]; rfl
  · rw [hG.1 23 rfl]; exact g11
  · intro i hi
    rw [hG.2.1 34 rfl]; exact g12 i hi
theorem CR_w {a : AS} {c c2 : CS} (h : CR a c) (hF : FKw c c2) : CR a c2 := by
  obtain ⟨g1, ⟨g2, g3⟩, g4, g6, g7, g8, g10, g11, g12⟩ := h
  refine ⟨g1, ⟨CF_w g2 hF, CG_w g3 hF⟩, ⟨?_, ?_, ?_⟩, CPl_w g6 hF, ?_, ⟨?_, ?_⟩, ?_, ?_, ?_⟩
  · rw [hF.1 4 rfl]; exact g4.1
  · rw [hF.1 5 rfl]; exact g4.2.1
  · unfold TW; rw [hF.1 11 rfl, hF.1 12 rfl, hF.2.1]; exact g4.2.2
  · rw [hF.2.1]; exact g7
  · rw [hF.1 24 rfl]; exact g8.1
  · rw [hF.2.1]; exact g8.2
  · rw [hF.1 25 rfl]; exact g10
  · rw [hF.1 23 rfl]; exact g11
  · rw [hF.2.1]; exact g12
def T_X9_tell : Tr := fun av h N X => ∃ (M : List ME) (c : CS) (a : AS) (p n : Int), av = [mR 0, mI p, mI n] ∧ h = hC (none, M) c ∧ CR a c ∧ CPi M (xTell a p n).1 (xTell a p n).2 N X
abbrev e_X9_tell : NE := (ftX9, [(102, (2, 0, 0, false, (0, 9), T_X9_isPlace)), (113, (2, 0, 0, false, (0, 3), T_X3_read)), (124, (2, 0, 0, false, (0, 8), T_X8_run)), (128, (1, 0, 0, false, (0, 8), T_X8_result)), (135, (5, 0, 0, false, (1, 0), T_arraycopy)), (141, (2, 0, 0, false, (0, 4), T_X4_terms))], ltX9, [], [], false, 1, (1, 6), [], [], [(20, xI)], true)
set_option maxHeartbeats 8000000 in
theorem s_X9_tell : mm_Spec e_X9_tell kX9_tell 3 T_X9_tell := by
  rintro N X K av h hK ⟨M, c, a, p, n, rfl, rfl, hc, h2⟩
  have hb := fbase hc.1.1
  have h24 : c.1 24 = (aTn a : Nat) := hc.2.2.2.2.2.1.1
  have bad : ¬ (okP p ∧ 0 ≤ n ∧ n ≤ (aTn a : Int)) → X xI (hC (none, M) c) := fun hh => by
    have e : xTell a p n = (a, 1, 0) := by unfold xTell; rw [if_neg hh]
    rw [e] at h2
    exact h2.2 rfl c hc
  refine ⟨rfl, hK [] _ _ _ _ _ _ ?_⟩
  refine ⟨p, rfl, ?_⟩
  refine And.intro (fun q => bad (fun z => bi_c0 q z.1)) (fun q => ?_)
  have qp := bi_c1 q
  refine And.intro (fun q => bad (fun z => by omega)) (fun q2 => ?_)
  conv => whnf
  rw [h24]
  refine And.intro (fun q3 => ?_) (fun q3 => bad (fun z => by omega))
  have hh : okP p ∧ 0 ≤ n ∧ n ≤ (aTn a : Int) := ⟨qp, by omega, by omega⟩
  obtain ⟨m, rfl⟩ := Int.eq_ofNat_of_zero_le hh.2.1
  obtain ⟨pn, rfl⟩ := Int.eq_ofNat_of_zero_le hh.1.1
  have hm : m ≤ aTn a := by omega
  have hm2 : m ≤ 200 := Nat.le_trans hm hc.1.2.2.2.1
  have hpn : pn < 8 := by omega
  have e : xTell a pn m = (match pAll (aTt a, m) (aF a) with
    | .inl (k, b) => (aSetF (aSetT a 0 (aTt a)) (b : Int), 0, -10 - (k : Int))
    | .inr (_, ops) => match evs a ops (some []) with
      | some (V :: _) => (aSetP (aSetF (aSetT a 0 (aTt a)) (-1)) pn (fun t => (V t).toInt), 0, (nzc V (fD (aF a)) : Int))
      | _ => (aSetF (aSetT a 0 (aTt a)) (-1), 0, -2)) := by
    unfold xTell
    rw [if_pos hh]
    rfl
  rw [e] at h2
  refine ⟨(none, M), kI c 24 0, aF a, aTt a, m, rfl, rfl, hc.2.1, hm2, fun i hi => ⟨hc.2.2.2.2.2.1.2 i (by omega), hc.1.2.2.2.2.1 i (by omega)⟩, fun c2 hF2 hR => ?_⟩
  cases hpa : pAll (aTt a, m) (aF a) with
  | inl q =>
    rw [hpa] at hR h2
    obtain ⟨b1, b2, b3, b4, b5⟩ := hR
    conv => whnf
    rw [b1]
    refine And.intro (fun q => absurd q (by omega)) (fun _ => ?_)
    conv => whnf
    rw [b1]
    refine And.intro (rng_of (by omega) (by omega)) ?_
    have hcr : CR (aSetF (aSetT a 0 (aTt a)) (q.2 : Int)) (kI c2 25 (c2.1 14)) := by rw [b4]; exact CR_a1 hc hF2 (by omega)
    exact h2.1 rfl (kI c2 25 (c2.1 14)) hcr
  | inr v =>
    rw [hpa] at hR h2
    obtain ⟨b1, b2, b3⟩ := hR
    have hcr : CR (aSetF (aSetT a 0 (aTt a)) (-1)) (kI c2 25 (c2.1 14)) := by rw [b2]; exact CR_a1 hc hF2 (by omega)
    have hok := all_ok hc.1.1 hpa
    have h2 : CPi M (match evs a v.2 (some []) with
      | some (V :: _) => (aSetP (aSetF (aSetT a 0 (aTt a)) (-1)) pn (fun t => (V t).toInt), 0, (nzc V (fD (aF a)) : Int))
      | _ => (aSetF (aSetT a 0 (aTt a)) (-1), 0, -2) : AS × Nat × Int).1 (match evs a v.2 (some []) with
      | some (V :: _) => (aSetP (aSetF (aSetT a 0 (aTt a)) (-1)) pn (fun t => (V t).toInt), 0, (nzc V (fD (aF a)) : Int))
      | _ => (aSetF (aSetT a 0 (aTt a)) (-1), 0, -2) : AS × Nat × Int).2 N X := h2
    conv => whnf
    rw [b1]
    refine And.intro (fun _ => ?_) (fun q => absurd q (by omega))
    refine ⟨(none, M), kI c2 25 (c2.1 14), a, v.2, rfl, rfl, rfl, hcr.2.1, hc.1, hcr.2.2.2.1, ?_, Nat.le_trans hok.2.2.1 (Nat.le_trans hok.2.2.2 hm2), hok.1, hok.2.1, fun c3 hF3 hV hone => ?_⟩
    · exact b3
    have hcr3 := CR_w hcr hF3
    cases hev : evs a v.2 (some []) with
    | none =>
      rw [hev] at h2
      refine And.intro (fun q => absurd (show ((ind (none : Option (List VL)).isSome : Nat) : Int) = 0 from rfl) q) (fun _ => ?_)
      exact h2.1 rfl c3 hcr3
    | some L =>
      obtain ⟨V, hL⟩ := hone (by rw [hev]; rfl)
      obtain ⟨hsm, hrow⟩ := hV V [] hL
      rw [hL] at hev
      cases hev
      rw [hL] at h2
      have hd : c3.1 7 = (fD (aF a) : Nat) := hcr3.2.1.2.2.2.1
      refine And.intro (fun _ => ?_) (fun q => absurd q (show ¬ (((1 : Nat) : Int) = 0) by omega))
      refine ⟨(none, M), c3, rfl, rfl, ?_⟩
      refine And.intro (by omega) ?_
      conv => whnf
      rw [hd]
      refine ⟨8, 0 + pn, fD (aF a), rfl, rfl, by omega, by show 8 < 24; omega, by show 0 + pn < 24; omega, ?_⟩
      refine And.intro (by omega) ?_
      have hbb : ∀ t : Nat, t < fD (aF a) → (fun j : Int => if 0 ≤ j ∧ j < (fD (aF a) : Int) then c3.2.2.2.1 8 j else c3.2.2.2.1 (0 + pn) j) (t : Int) = (V t).toInt := fun t ht => by
        show (if 0 ≤ (t : Int) ∧ (t : Int) < (fD (aF a) : Int) then c3.2.2.2.1 8 (t : Int) else c3.2.2.2.1 (0 + pn) (t : Int)) = _
        rw [if_pos ⟨by omega, by omega⟩, hrow t ht]
      have hcr4 := CR_P (G := c3.2.2.1 12) (b := fun j : Int => if 0 ≤ j ∧ j < (fD (aF a) : Int) then c3.2.2.2.1 8 j else c3.2.2.2.1 (0 + pn) j) hcr3 (p := 0 + pn) (by omega) (V := fun t => (V t).toInt) (fun t ht => hsm t ht) hbb
      refine ⟨(none, M), kR c3 (mm_updR c3.2.2.2.1 (0 + pn) (fun j : Int => if 0 ≤ j ∧ j < (fD (aF a) : Int) then c3.2.2.2.1 8 j else c3.2.2.2.1 (0 + pn) j)), aF a, 0 + pn, rfl, rfl, hcr3.2.1.2, by omega, fun t ht => ?_, ?_⟩
      · show -1000000 ≤ mm_updR c3.2.2.2.1 (0 + pn) _ (0 + pn) (t : Int) ∧ mm_updR c3.2.2.2.1 (0 + pn) _ (0 + pn) (t : Int) ≤ 1000000
        rw [updR_at]
        exact (show ∀ z : Int, z = (V t).toInt → -1000000 ≤ z ∧ z ≤ 1000000 from fun z hz => by rw [hz]; exact hsm t ht) _ (hbb t ht)
      · rw [nzc_congr (V' := V) (fD (aF a)) (fun t ht => by
          show Int64.ofInt (mm_updR c3.2.2.2.1 (0 + pn) _ (0 + pn) (t : Int)) = _
          rw [updR_at]
          exact (congrArg Int64.ofInt (hbb t ht)).trans (Int64.ofInt_toInt _))]
        rw [← Nat.zero_add pn] at h2
        exact h2.1 rfl _ hcr4
theorem m_X9_tell (l : Launch) (hl : l.stackTraces = false) : mm_MetX l yX9_tell cX9_tell 3 (some .int) 49 1 6 T_X9_tell := mm_metX (E := e_X9_tell) (cd := kX9_tell) s_X9_tell (by decide) kX9_tell_ok (by decide +kernel) (by decide +kernel) (Or.inr (Or.inl ⟨rfl, rfl⟩)) rfl hl (by decide) (by decide +kernel) (mm_eokt (mm_eok_X9 _)) (mm_cz_cons (Or.inl (mm_CQ_of (mm_cbv wi_X9_isPlace (tb2 (i := 212) rfl rfl) (m_X9_isPlace l) (by decide) (by decide) rfl))) (mm_cz_cons (Or.inl (mm_CQ_of (mm_cbv wi_X3_read (tb3 (i := 173) rfl rfl) (m_X3_read l) (by decide) (by decide) rfl))) (mm_cz_cons (Or.inl (mm_CQ_of (mm_cbv wi_X8_run (tb4 (i := 13) rfl rfl) (m_X8_run l) (by decide) (by decide) rfl))) (mm_cz_cons (Or.inl (mm_CQ_of (mm_cbv wi_X8_result (tb4 (i := 76) rfl rfl) (m_X8_result l) (by decide) (by decide) rfl))) (mm_cz_cons (Or.inl (mm_CQ_copy (tb4 (i := 80) rfl rfl) (by omega))) (mm_cz_cons (Or.inl (mm_CQ_of (mm_cbv wi_X4_terms (tb3 (i := 83) rfl rfl) (m_X4_terms l) (by decide) (by decide) rfl))) (mm_cz_nil)))))))
