/-! the component's worker: a step, all steps -/
theorem WQ_w {w : CW} {c : CS} {a : AS} {o : OP} {L L0 : List VL} {W : VL} {N : Option MV → HP → Prop} (h : WQ w c a o L N) (e : evO a o L = tst (aF a) W L0) : WP w c (aF a) L0 W N := WQ_tst h e
theorem evO_pw2 (a : AS) (m : Nat) (y z : Int) (V : VL) (L : List VL) : evO a (12, (m : Int), y, z) (V :: L) = pwE (aF a) V m L := by
  show (if (m : Int) = 0 then tst (aF a) (fun t => if t = 0 then 1 else 0) L else pwV (aF a) V ((m : Int).toNat - 1) V L) = _
  unfold pwE
  by_cases q : m = 0
  · rw [if_pos q, if_pos (by omega)]
  · rw [if_neg q, if_neg (by omega)]
    rfl
def T_X8_work : Tr := fun av h N _ => ∃ (w : CW) (c : CS) (a : AS) (i n : Nat) (o : OP) (L : List VL), av = [mR 31, mR 26, mI i] ∧ h = hC w c ∧ w.1 = none ∧ CFG (aF a) c ∧ AO a ∧ CPl a c ∧ opAt c i o ∧ opok (aF a) o ∧ hst o L.length = some n ∧ c.1 22 = (L.length : Nat) ∧ L.length ≤ 15 ∧ WSt (aF a) c L ∧ allS (aF a) L ∧ WQ w c a o L N
abbrev e_X8_work : NE := (ftX8, [(47, (1, 0, 0, false, (0, 8), T_X8_negate)), (51, (2, 0, 0, false, (0, 8), T_X8_move)), (55, (2, 0, 0, false, (0, 8), T_X8_join)), (58, (1, 0, 0, false, (0, 8), T_X8_multiply)), (61, (2, 0, 0, false, (0, 8), T_X8_raise)), (64, (3, 0, 0, false, (0, 8), T_X8_push))], ltX8, [], [], false, 2, (0, 0), [], [], [], true)
set_option maxHeartbeats 8000000 in
theorem s_X8_work : mm_Spec e_X8_work kX8_work 4 T_X8_work := by
  rintro N X K av h hK ⟨w, c, a, i, n, ⟨k, x, y, z⟩, L, rfl, rfl, hw, hFG, hA, hP, hoA, hok, hh, h22, hL, hW, hS, h2⟩
  have hb := fbase hFG.1.1.1
  obtain ⟨hi, o1, o2, o3, o4⟩ := hoA
  have o1' : c.2.1 27 (i : Int) = (k : Int) := o1
  have o2' : c.2.1 28 (i : Int) = x := o2
  have hkr : k ≤ 12 := by
    rcases hok with ⟨r, -⟩ | ⟨r, -⟩ | ⟨r, -⟩ | ⟨r, -⟩ | ⟨r, -⟩ | ⟨r, -⟩ | ⟨r, -⟩ | r | ⟨r, -⟩ | r | r | r | ⟨r, -⟩
    all_goals (simp only at r; omega)
  have hne : ¬ k ≤ 6 → ∃ V L1, L = V :: L1 := by
    intro hk
    cases L with
    | cons V L1 => exact ⟨V, L1, rfl⟩
    | nil =>
      unfold hst at hh
      rw [if_neg hk] at hh
      split at hh
      · rw [if_neg (by simp)] at hh; cases hh
      · rw [if_neg (by simp)] at hh; cases hh
  have hne2 : (k = 9 ∨ k = 10 ∨ k = 11) → ∃ V U L1, L = V :: U :: L1 := by
    intro hk
    cases L with
    | nil =>
      unfold hst at hh
      rw [if_neg (by simp only; omega), if_neg (by simp only; omega), if_neg (by simp)] at hh; cases hh
    | cons V L1 =>
      cases L1 with
      | nil =>
        unfold hst at hh
        rw [if_neg (by simp only; omega), if_neg (by simp only; omega), if_neg (by simp)] at hh; cases hh
      | cons U L2 => exact ⟨V, U, L2, rfl⟩
  refine ⟨rfl, hK [] _ _ _ _ _ _ ?_⟩
  refine And.intro (by omega) ?_
  refine And.intro (by omega) ?_
  conv => whnf
  rw [o1', o2']
  refine And.intro (fun q => ?_) (And.intro (fun q => ?_) (And.intro (fun q => ?_) (And.intro (fun q => ?_) (And.intro (fun q => ?_) (And.intro (fun q => ?_) (And.intro (fun q => ?_) trivial))))))
  · have hk6 : k ≤ 6 := by omega
    have hL14 : L.length ≤ 14 := by
      unfold hst at hh
      rw [if_pos hk6] at hh
      split at hh
      · assumption
      · cases hh
    refine ⟨w, c, a, i, (k, x, y, z), L, rfl, rfl, hFG, hA, hP, ⟨hi, o1, o2, o3, o4⟩, hok, hk6, h22, hL14, hW, ?_⟩
    intro c' hF hL'
    exact And.intro (ind_01 _) (h2 c' hF hL')
  · have hk0 : k = 7 := by omega
    subst hk0
    obtain ⟨V, L1, rfl⟩ := hne (by omega)
    refine ⟨w, c, aF a, V, L1, rfl, rfl, hFG.2, h22, by simp only [List.length_cons] at hL; omega, hW, ?_⟩
    intro c' hF h3 h4
    exact And.intro (bi_01 _) (WQ_w h2 rfl c' hF h3 h4)
  · have hk0 : k = 8 := by omega
    subst hk0
    obtain ⟨V, L1, rfl⟩ := hne (by omega)
    have hr : okM (aF a) x := by
      rcases hok with ⟨r, -⟩ | ⟨r, -⟩ | ⟨r, -⟩ | ⟨r, -⟩ | ⟨r, -⟩ | ⟨r, -⟩ | ⟨r, -⟩ | r | ⟨-, r⟩ | r | r | r | ⟨r, -⟩
      iterate 8 exact absurd r (by simp)
      · exact r
      all_goals exact absurd r (by simp)
    obtain ⟨xn, rfl⟩ := Int.eq_ofNat_of_zero_le hr.1
    refine ⟨w, c, aF a, xn, V, L1, rfl, rfl, hFG.2, by have := hr.2.1; omega, h22, by simp only [List.length_cons] at hL; omega, hW, ?_⟩
    intro c' hF h3 h4
    exact And.intro (bi_01 _) (WQ_w h2 rfl c' hF h3 h4)
  · have hk0 : k = 9 := by omega
    subst hk0
    obtain ⟨V, U, L1, rfl⟩ := hne2 (Or.inl rfl)
    refine ⟨w, c, aF a, 1, V, U, L1, rfl, rfl, hFG.2, h22, by simp only [List.length_cons] at hL; omega, hW, ?_⟩
    intro c' hF h3 h4
    exact And.intro (bi_01 _) (WQ_w (W := fun t => U t + Int64.ofInt 1 * V t) h2 (by rw [show Int64.ofInt 1 = (1 : Int64) from rfl]; rfl) c' hF h3 h4)
  · have hk0 : k = 10 := by omega
    subst hk0
    obtain ⟨V, U, L1, rfl⟩ := hne2 (Or.inr (Or.inl rfl))
    refine ⟨w, c, aF a, -1, V, U, L1, rfl, rfl, hFG.2, h22, by simp only [List.length_cons] at hL; omega, hW, ?_⟩
    intro c' hF h3 h4
    exact And.intro (bi_01 _) (WQ_w (W := fun t => U t + Int64.ofInt (-1) * V t) h2 (by rw [show Int64.ofInt (-1) = (-1 : Int64) from rfl]; rfl) c' hF h3 h4)
  · have hk0 : k = 11 := by omega
    subst hk0
    obtain ⟨V, U, L1, rfl⟩ := hne2 (Or.inr (Or.inr rfl))
    refine ⟨w, c, aF a, V, U, L1, rfl, rfl, hFG.2, h22, by simp only [List.length_cons] at hL; omega, hW, ?_⟩
    intro c' hF h3 h4
    exact And.intro (bi_01 _) (WQ_w h2 rfl c' hF h3 h4)
  · have hk0 : k = 12 := by omega
    subst hk0
    obtain ⟨V, L1, rfl⟩ := hne (by omega)
    have hr : 0 ≤ x ∧ x ≤ 20 := by
      rcases hok with ⟨r, -⟩ | ⟨r, -⟩ | ⟨r, -⟩ | ⟨r, -⟩ | ⟨r, -⟩ | ⟨r, -⟩ | ⟨r, -⟩ | r | ⟨r, -⟩ | r | r | r | ⟨-, r⟩
      iterate 12 exact absurd r (by simp)
      exact r
    obtain ⟨xn, rfl⟩ := Int.eq_ofNat_of_zero_le hr.1
    have e : evO a (12, (xn : Int), y, z) (V :: L1) = pwE (aF a) V xn L1 := evO_pw2 a xn y z V L1
    refine ⟨w, c, aF a, xn, V, L1, rfl, rfl, hw, hFG.2, by omega, h22, by simp only [List.length_cons] at hL; omega, hW, hS V List.mem_cons_self, ?_⟩
    intro c' hF h3 h4
    have h5 := h2 c' hF (fun L' hL' => by
      rw [e] at hL'
      refine ⟨?_, h4 L' hL'⟩
      have hl : L'.length = L1.length + 1 := by
        unfold pwE at hL'
        split at hL'
        · exact (tst_S (allS_tl hS) hL').2
        · exact (pwV_S _ _ _ _ (hS V List.mem_cons_self) (allS_tl hS) hL').2
      rw [hl]
      exact h3)
    rw [e] at h5
    exact And.intro (ind_01 _) h5
theorem m_X8_work (l : Launch) : mm_Met l yX8_work cX8_work 4 (some .boolean) 4 0 0 T_X8_work := mm_met (E := e_X8_work) (cd := kX8_work) s_X8_work (by decide) kX8_work_ok (by decide +kernel) (by decide +kernel) (Or.inr (Or.inr (Or.inl ⟨rfl, rfl⟩))) rfl (mm_eok_X8 _) (mm_calls_cons (mm_cbv wi_X8_negate (tb4 (i := 21) rfl rfl) (m_X8_negate l) (by decide) (by decide) rfl) (mm_calls_cons (mm_cbv wi_X8_move (tb4 (i := 35) rfl rfl) (m_X8_move l) (by decide) (by decide) rfl) (mm_calls_cons (mm_cbv wi_X8_join (tb4 (i := 40) rfl rfl) (m_X8_join l) (by decide) (by decide) rfl) (mm_calls_cons (mm_cbv wi_X8_multiply (tb4 (i := 44) rfl rfl) (m_X8_multiply l) (by decide) (by decide) rfl) (mm_calls_cons (mm_cbv wi_X8_raise (tb4 (i := 56) rfl rfl) (m_X8_raise l) (by decide) (by decide) rfl) (mm_calls_cons (mm_cbv wi_X8_push (tb4 (i := 68) rfl rfl) (m_X8_push l) (by decide) (by decide) rfl) (mm_calls_nil)))))))
def T_X8_run : Tr := fun av h N _ => ∃ (w : CW) (c : CS) (a : AS) (ops : List OP), av = [mR 31, mR 26] ∧ h = hC w c ∧ w.1 = none ∧ CFG (aF a) c ∧ AO a ∧ CPl a c ∧ PGc c ops ∧ ops.length ≤ 200 ∧ (∀ o ∈ ops, opok (aF a) o) ∧ hrun ops 0 = some 1 ∧ ∀ c' : CS, FKw c c' → (∀ V L', evs a ops (some []) = some (V :: L') → small (aF a) V ∧ ∀ t : Nat, t < fD (aF a) → c'.2.2.2.1 8 (t : Int) = (V t).toInt) → ((evs a ops (some [])).isSome = true → ∃ V, evs a ops (some []) = some [V]) → N (some (mI (ind (evs a ops (some [])).isSome : Nat))) (hC w c')
abbrev e_X8_run : NE := (ftX8, [(36, (3, 0, 0, false, (0, 8), T_X8_work))], ltX8, [], [], false, 2, (0, 0), [], [], [], true)
set_option maxHeartbeats 8000000 in
theorem s_X8_run : mm_Spec e_X8_run kX8_run 3 T_X8_run := by
  rintro N X K av h hK ⟨w, c, a, ops, rfl, rfl, hw, hFG, hA, hP, hPG, hlen, hok, hhr, h2⟩
  have loop : ∀ (B : List OP) (i : Nat) (L : List VL) (c1 : CS), ops.drop i = B → i + B.length = ops.length → FKw c c1 → c1.1 22 = (L.length : Nat) → L.length ≤ 15 → WSt (aF a) c1 L → allS (aF a) L → evs a B (some L) = evs a ops (some []) → hrun B L.length = some 1 → K 7 [some (mR 31), some (mR 26), some (mI i)] [] (hC w c1) 0 0 := by
    intro B
    induction B with
    | nil =>
      intro i L c1 hB hi hF h22 hL hW hS he hr
      have hr : some L.length = some 1 := hr
      have hl1 : L.length = 1 := Option.some.inj hr
      have he : some L = evs a ops (some []) := he
      simp only [List.length_nil] at hi
      obtain ⟨V, rfl⟩ : ∃ V, L = [V] := by
        cases L with
        | nil => cases hl1
        | cons V L1 =>
          cases L1 with
          | nil => exact ⟨V, rfl⟩
          | cons U L2 => simp only [List.length_cons] at hl1; omega
      rw [← he] at h2
      refine hK [] _ _ _ _ _ _ ?_
      conv => whnf
      rw [show c1.1 21 = (ops.length : Int) from (hF.1 21 rfl).trans hPG.1]
      refine And.intro (fun _ => ?_) (fun q => absurd q (by omega))
      conv => whnf
      rw [h22]
      refine And.intro (fun q => absurd q (by omega)) (fun _ => ?_)
      refine And.intro (Or.inr rfl) ?_
      exact h2 c1 hF (fun V' L' hL' => by cases hL'; exact ⟨hS V List.mem_cons_self, hW.1⟩) (fun _ => ⟨V, rfl⟩)
    | cons o B ih =>
      intro i L c1 hB hi hF h22 hL hW hS he hr
      simp only [List.length_cons] at hi
      have hget : ops.getD i opd = o := by
        rw [List.getD_eq_getElem?_getD]
        have : (ops.drop i)[0]? = some o := by rw [hB]; rfl
        rw [List.getElem?_drop, Nat.add_zero] at this
        rw [this]
        rfl
      have hmem : o ∈ ops := by
        have : o ∈ ops.drop i := by rw [hB]; exact List.mem_cons_self
        exact List.mem_of_mem_drop this
      have hB2 : ops.drop (i + 1) = B := by
        rw [← List.drop_drop, hB]
        rfl
      have he : evs a B (evO a o L) = evs a ops (some []) := he
      have hr : (match hst o L.length with | some h' => hrun B h' | none => none) = some 1 := hr
      cases hh : hst o L.length with
      | none => rw [hh] at hr; cases hr
      | some n =>
        rw [hh] at hr
        have hr : hrun B n = some 1 := hr
        obtain ⟨p1, p2⟩ := hPG
        have hoA : opAt c1 i o := by
          obtain ⟨g1, g2, g3, g4⟩ := p2 i (by omega)
          rw [hget] at g1 g2 g3 g4
          refine ⟨by omega, ?_, ?_, ?_, ?_⟩
          · rw [hF.2.1]; exact g1
          · rw [hF.2.1]; exact g2
          · rw [hF.2.1]; exact g3
          · rw [hF.2.1]; exact g4
        refine hK [7] _ _ _ _ _ _ ?_
        conv => whnf
        rw [show c1.1 21 = (ops.length : Int) from (hF.1 21 rfl).trans p1]
        refine And.intro (fun q => absurd q (by omega)) (fun _ => ?_)
        refine ⟨w, c1, a, i, n, o, L, rfl, rfl, hw, ⟨CF_w hFG.1 hF, CG_w hFG.2 hF⟩, hA, CPl_w hP hF, hoA, hok o hmem, hh, h22, hL, hW, hS, ?_⟩
        intro c2 hF2 hL'
        have hF12 := FKw_tr hF hF2
        cases hev : evO a o L with
        | none =>
          rw [hev, evs_none] at he
          rw [← he] at h2
          refine And.intro (fun z => absurd rfl z) (fun _ => ?_)
          refine And.intro (Or.inl rfl) ?_
          exact h2 c2 hF12 (fun V L' hh => by cases hh) (fun hh => by cases hh)
        | some L1 =>
          rw [hev] at he
          obtain ⟨g1, g2⟩ := hL' L1 hev
          obtain ⟨s1, s2⟩ := evO_S hA (hok o hmem) hS hev
          have hl1 := s2 n hh
          refine And.intro (fun _ => ?_) (fun z => absurd z (by show ¬ (1 : Int) = 0; omega))
          refine And.intro (rng_of (by omega) (by omega)) ?_
          refine ih (i + 1) L1 c2 hB2 (by omega) hF12 g1 ?_ g2 s1 he (by rw [hl1]; exact hr)
          rw [hl1]
          unfold hst at hh
          split at hh
          · split at hh
            · cases hh; omega
            · cases hh
          · split at hh
            · split at hh
              · cases hh; omega
              · cases hh
            · split at hh
              · cases hh; omega
              · cases hh
  refine ⟨rfl, hK [7] _ _ _ _ _ _ ?_⟩
  exact loop ops 0 [] (kI c 22 0) rfl (by omega) (FKw_I c 0) rfl (by simp) trivial (fun _ h => nomatch h) rfl hhr
theorem m_X8_run (l : Launch) : mm_Met l yX8_run cX8_run 3 (some .boolean) 5 0 0 T_X8_run := mm_met (E := e_X8_run) (cd := kX8_run) s_X8_run (by decide) kX8_run_ok (by decide +kernel) (by decide +kernel) (Or.inr (Or.inr (Or.inl ⟨rfl, rfl⟩))) rfl (mm_eok_X8 _) (mm_calls_cons (mm_cbv wi_X8_work (tb4 (i := 17) rfl rfl) (m_X8_work l) (by decide) (by decide) rfl) (mm_calls_nil))
