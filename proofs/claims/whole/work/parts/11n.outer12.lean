/-! the component: entering a field -/
/-- what a new field leaves: tape, fault, speech -/
def CRt (a : AS) (c : CS) : Prop := TW c ∧ (c.1 24 = (aTn a : Nat) ∧ ∀ i : Nat, i < aTn a → c.2.1 17 (i : Int) = aTt a i) ∧ c.1 25 = aFp a ∧ c.1 23 = (aSn a : Nat) ∧ ∀ i : Nat, i < aSn a → c.2.1 34 (i : Int) = aSb a i
abbrev aNew (a : AS) (f : Nat) : AS := (f, (fun _ _ => 0), (fun _ => 0), a.2.2.2)
theorem CRt_fr {a : AS} {I A L : List Nat} {c c' : CS} (h : CRt a c) (hF : FC I A L c c') (hI : [11, 12, 23, 24, 25].all (fun j => !(mm_mem j I)) = true) (hA : [17, 24, 34].all (fun j => !(mm_mem j A)) = true) : CRt a c' := by
  obtain ⟨hT, ⟨h8, h9⟩, h10, h11, h12⟩ := h
  simp only [List.all_cons, List.all_nil, Bool.and_eq_true, Bool.not_eq_true'] at hI hA
  obtain ⟨i11, i12, i23, i24, i25, -⟩ := hI
  obtain ⟨a17, a24, a34, -⟩ := hA
  refine ⟨TW_fr hT hF i11 i12 a24, ⟨?_, ?_⟩, ?_, ?_, ?_⟩
  · rw [hF.1 24 i24]; exact h8
  · intro i hi
    rw [hF.2.1 17 a17]; exact h9 i hi
  · rw [hF.1 25 i25]; exact h10
  · rw [hF.1 23 i23]; exact h11
  · intro i hi
    rw [hF.2.1 34 a34]; exact h12 i hi
def T_X9_enter : Tr := fun av h N _ => ∃ (w : CW) (c : CS) (a : AS) (f : Nat), av = [mR 0, mI (fP f : Nat), mI (fK f : Nat), mI (fQ f : Nat)] ∧ h = hC w c ∧ f < 15 ∧ AO (aNew a f) ∧ CRt a c ∧ ∀ c' : CS, CR (aNew a f) c' → N none (hC w c')
abbrev e_X9_enter : NE := (ftX9, [(330, (4, 0, 0, false, (0, 1), T_X1_become)), (333, (2, 0, 0, false, (0, 4), T_X4_become)), (335, (2, 0, 0, false, (1, 0), T_J7_fill_53178))], ltX9, [], [], false, 0, (0, 0), [], [], [], true)
theorem s_X9_enter : mm_Spec e_X9_enter kX9_enter 5 T_X9_enter := by
  rintro N X K av h hK ⟨w, c, a, f, rfl, rfl, hf, hA, ht, h2⟩
  have hb := fbase hf
  have loop : ∀ (k i : Nat) (c1 : CS), i + k = 8 → CFG f c1 → c1.1 4 = (fM f : Nat) → c1.1 5 = (fG f : Nat) → CRt a c1 → (∀ j t : Nat, j < i → t < 220 → c1.2.2.2.1 j (t : Int) = 0) → K 25 [some (mR 0), some (mI (fP f : Nat)), some (mI (fK f : Nat)), some (mI (fQ f : Nat)), some (mI (i : Int))] [] (hC w c1) 0 0 := by
    intro k
    induction k with
    | zero =>
      intro i c1 hi hG h4 h5 ht1 hz
      refine hK [25] _ _ _ _ _ _ ?_
      refine And.intro (fun _ => ?_) (fun q => absurd q (by omega))
      refine ⟨w, c1, 0, rfl, Or.inr (Or.inl ⟨rfl, fun b hb1 => ?_⟩)⟩
      refine h2 _ ⟨hA, ⟨CF_fr hG.1 (FC_A (I := []) (A := [16]) (L := []) (FC_rf c1) rfl) rfl rfl, CG_fr hG.2 (FC_A (I := []) (A := [16]) (L := []) (FC_rf c1) rfl) rfl rfl⟩, ⟨h4, h5, ht1.1⟩, fun j t hj ht => ?_, fun x hx => ?_, ht1.2.1, ht1.2.2.1, ht1.2.2.2.1, ht1.2.2.2.2⟩
      · have := fbase hf
        exact hz j t (by omega) (by have : t < fD f := ht; omega)
      · show b (x : Int) = 0
        rw [hb1, if_pos ⟨by omega, by omega⟩]
    | succ k ih =>
      intro i c1 hi hG h4 h5 ht1 hz
      refine hK [25] _ _ _ _ _ _ ?_
      refine And.intro (fun q => absurd q (by omega)) (fun _ => ?_)
      refine And.intro (by omega) ?_
      refine ⟨w, c1, 0, rfl, Or.inr (Or.inr (Or.inr ⟨0 + i, by omega, rfl, fun b hb1 => ?_⟩))⟩
      refine And.intro (rng_of (by omega) (by omega)) ?_
      refine ih (i + 1) (kR c1 (mm_updR c1.2.2.2.1 (0 + i) b)) (by omega) hG h4 h5 ht1 (fun j t hj ht => ?_)
      show mm_updR c1.2.2.2.1 (0 + i) b j (t : Int) = 0
      unfold mm_updR
      by_cases e : j = 0 + i
      · rw [if_pos e, hb1, if_pos ⟨by omega, by omega⟩]
      · rw [if_neg e]
        exact hz j t (by omega) ht
  refine ⟨rfl, hK [25] _ _ _ _ _ _ ?_⟩
  refine ⟨w, c, f, rfl, rfl, hf, fun c1 hF1 hCF h4 h5 => ?_⟩
  conv => whnf
  rw [show (fQ f : Int) - 1 = ((fQ f - 1 : Nat) : Int) by omega]
  refine And.intro (rng_nat (by omega)) ?_
  conv => whnf
  rw [cmul, hb.2.2.2.2.2.2.2.1]
  refine And.intro (rng_nat (by omega)) ?_
  refine ⟨w, c1, f, rfl, rfl, hf, fun c2 hF2 hCG => ?_⟩
  exact loop 8 0 c2 (by omega) ⟨CF_fr hCF hF2 rfl rfl, hCG⟩ (by rw [hF2.1 4 rfl]; exact h4) (by rw [hF2.1 5 rfl]; exact h5) (CRt_fr (CRt_fr ht hF1 rfl rfl) hF2 rfl rfl) (fun j t hj _ => by omega)
theorem m_X9_enter (l : Launch) : mm_Met l yX9_enter cX9_enter 5 none 5 0 0 T_X9_enter := mm_met (E := e_X9_enter) (cd := kX9_enter) s_X9_enter (by decide) kX9_enter_ok (by decide +kernel) (by decide +kernel) (Or.inl ⟨rfl, rfl⟩) rfl (mm_eok_X9 _) (mm_calls_cons (mm_cbv wi_X1_become (tb2 (i := 58) rfl rfl) (m_X1_become l) (by decide) (by decide) rfl) (mm_calls_cons (mm_cbv wi_X4_become (tb2 (i := 118) rfl rfl) (m_X4_become l) (by decide) (by decide) rfl) (mm_calls_cons (mm_cbs wi_J7_fill_53178 (tb2 (i := 144) rfl rfl) (m_J7_fill_53178 l) (by decide) (by decide) rfl) (mm_calls_nil))))
theorem AO_new {a : AS} (h : AO a) {f : Nat} (hf : f < 15) : AO (aNew a f) := ⟨hf, fun _ _ _ _ => ⟨by show (-1000000 : Int) ≤ 0; omega, by show (0 : Int) ≤ 1000000; omega⟩, fun _ _ => ⟨by show (-99 : Int) ≤ 0; omega, by show (0 : Int) ≤ 99; omega⟩, h.2.2.2⟩
def T_X9_field : Tr := fun av h N _ => ∃ (M : List ME) (c : CS) (a : AS) (p k : Int), av = [mR 0, mI p, mI k] ∧ h = hC (none, M) c ∧ CR a c ∧ ∀ c' : CS, CR (xField a p k).1 c' → N (some (mI (xField a p k).2)) (hC (none, M) c')
abbrev e_X9_field : NE := (ftX9, [(91, (2, 0, 0, false, (1, 0), T_X1_sizeOf)), (87, (4, 0, 0, false, (0, 9), T_X9_enter))], ltX9, [], [], false, 1, (0, 0), [], [], [], true)
theorem s_X9_field : mm_Spec e_X9_field kX9_field 4 T_X9_field := by
  rintro N X K av h hK ⟨M, c, a, p, k, rfl, rfl, hc, h2⟩
  refine ⟨rfl, hK [] _ _ _ _ _ _ ?_⟩
  refine ⟨p, k, rfl, ?_⟩
  unfold xField at h2
  cases ho : fOf p k with
  | none =>
    rw [ho] at h2
    have e : fSz p k = -1 := by unfold fSz; rw [ho]
    rw [e]
    refine And.intro (fun q => absurd q (by omega)) (fun _ => ?_)
    exact h2 c hc
  | some f =>
    rw [ho] at h2
    have e : fSz p k = (fQ f : Nat) ∧ f < 15 ∧ p = (fP f : Nat) ∧ k = (fK f : Nat) := ⟨by unfold fSz; rw [ho], fOf_some ho⟩
    obtain ⟨e1, hf, rfl, rfl⟩ := e
    rw [e1]
    refine And.intro (fun _ => ?_) (fun q => absurd q (by omega))
    exact ⟨(none, M), c, a, f, rfl, rfl, hf, AO_new hc.1 hf, ⟨hc.2.2.1.2.2, hc.2.2.2.2.2.1, hc.2.2.2.2.2.2⟩, fun c' hc' => h2 c' hc'⟩
theorem m_X9_field (l : Launch) : mm_Met l yX9_field cX9_field 4 (some .int) 6 0 0 T_X9_field := mm_met (E := e_X9_field) (cd := kX9_field) s_X9_field (by decide) kX9_field_ok (by decide +kernel) (by decide +kernel) (Or.inr (Or.inl ⟨rfl, rfl⟩)) rfl (mm_eok_X9 _) (mm_calls_cons (mm_cbs wi_X1_sizeOf (tb2 (i := 191) rfl rfl) (m_X1_sizeOf l) (by decide) (by decide) rfl) (mm_calls_cons (mm_cbv wi_X9_enter (tb2 (i := 54) rfl rfl) (m_X9_enter l) (by decide) (by decide) rfl) (mm_calls_nil)))
