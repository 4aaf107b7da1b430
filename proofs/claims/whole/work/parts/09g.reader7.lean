/-! the component's reader: the levels, the whole text -/
abbrev OC (d : Nat) (o : Int) : Prop := d ≤ 6 ∧ o = 6 - (d : Int)
abbrev OFc (_ : Int) : Prop := False
abbrev e_X3_readAtomB  : NE := (ftX3, [(62, (2, 0, 0, false, (0, 3), T_X3_refuse))], ltX3, [], [], false, 0, (0, 0), [], [], [], true)
set_option maxHeartbeats 4000000 in
theorem s_X3_readAtomB (A : Nat → TP → Nat → PR (List OP)) : mm_Spec e_X3_readAtomB kX3_readAtom 1 (TH OFc A) := by
  rintro N X K av h hK ⟨w, c, f, x, P, ops, rfl, rfl, hFG, hT, hP, hQ, h17, hO, h2⟩
  refine ⟨rfl, hK [] _ _ _ _ _ _ ?_⟩
  cases P with
  | inl e =>
    have e7 := hP.2.2.2.2.2.2
    conv => whnf
    rw [e7]
    refine And.intro (fun q => absurd q (by omega)) (fun _ => And.intro (fun q => absurd q (by omega)) (fun _ => And.intro (fun q => absurd q (by omega)) (fun _ => And.intro (fun q => absurd q (by omega)) (fun _ => And.intro (fun q => absurd q (by omega)) (fun _ => And.intro (fun q => absurd q (by omega)) (fun _ => And.intro (fun q => absurd q (by omega)) (fun _ => And.intro (fun q => absurd q (by omega)) (fun _ => And.intro (fun q => absurd q (by omega)) (fun _ => And.intro (fun q => absurd q (by omega)) (fun _ => And.intro (fun q => absurd q (by omega)) (fun _ => ?_)))))))))))
    refine ⟨w, c, x, .inl e, 1, rfl, rfl, hT, hP, by omega, by omega, fun c1 hF1 hP1 => ?_⟩
    exact h2 c1 (FC_mono hF1 rfl rfl rfl) (hF1.1 17 rfl) ⟨hP1, by rw [hF1.1 21 rfl]; exact hQ.1⟩
  | inr p => exact (hO p rfl).elim
theorem m_X3_readAtomB (A : Nat → TP → Nat → PR (List OP)) (l : Launch) : mm_Met l yX3_readAtom cX3_readAtom 1 none (9) 0 0 (TH OFc A) := mm_met (E := e_X3_readAtomB ) (cd := kX3_readAtom) (s_X3_readAtomB  A) (by decide) kX3_readAtom_ok (by decide +kernel) (by rfl) (Or.inl ⟨rfl, rfl⟩) rfl (mm_eok_X3 _) (mm_calls_cons (mm_cbv wi_X3_refuse (tb3 (i := 211) rfl rfl) (m_X3_refuse l) (by omega) (by omega) rfl) (mm_calls_nil))
theorem m_sum_of (O : Int → Prop) (A : Nat → TP → Nat → PR (List OP)) (hM : ∀ f x, MO x (A f x)) (lv : Nat) (hlv : 8 ≤ lv) (ih : ∀ l : Launch, mm_Met l yX3_readAtom cX3_readAtom 1 none lv 0 0 (TH O A)) (l : Launch) : mm_Met l yX3_readSum cX3_readSum 3 none (lv + 3) 0 0 (TH O (fun f x => pRw x (A f x))) :=
  m_X3_readSum O A hM (lv + 2) (by omega) (fun l => m_X3_readProduct O A hM (lv + 1) (by omega) (fun l => m_X3_readFactor O A lv hlv ih l) l) l
theorem m_atomC : ∀ (d : Nat) (l : Launch), mm_Met l yX3_readAtom cX3_readAtom 1 none (14 + 5 * d) 0 0 (TH (OC d) (fun f x => pAt x f d))
  | 0, l => m_X3_readAtom (OC 0) true (fun f x => pAt x f 0) 13 (by omega) (fun l => m_X3_readOpening OFc (OC 0) (fun f x => pAt x f 0) true (fun f x => MO_at x f 0) (fun o h => ⟨fun _ => by omega, fun z => nomatch z⟩) 9 (by omega) (m_X3_readAtomB _) (m_sum_of OFc _ (fun f x => MO_at x f 0) 9 (by omega) (m_X3_readAtomB _)) l) l
  | d + 1, l => m_X3_readAtom (OC (d + 1)) false (fun f x => pAt x f d) (14 + 5 * d + 4) (by omega) (fun l => m_X3_readOpening (OC d) (OC (d + 1)) (fun f x => pAt x f d) false (fun f x => MO_at x f d) (fun o h => ⟨fun z => (nomatch z), fun _ => ⟨by omega, by omega⟩⟩) (14 + 5 * d) (by omega) (m_atomC d) (m_sum_of (OC d) _ (fun f x => MO_at x f d) (14 + 5 * d) (by omega) (m_atomC d)) l) l
theorem m_sumC (l : Launch) : mm_Met l yX3_readSum cX3_readSum 3 none 47 0 0 (TH (OC 6) (fun f x => pRw x (pAt x f 6))) := m_sum_of (OC 6) _ (fun f x => MO_at x f 6) 44 (by omega) (m_atomC 6) l
def RDc (c : CS) : PR (List OP) → Prop
  | .inl e => c.1 13 = (e.1 : Nat) ∧ 1 ≤ e.1 ∧ e.1 ≤ 3 ∧ c.1 14 = (e.2 : Nat) ∧ e.2 ≤ 200
  | .inr v => c.1 13 = 0 ∧ c.1 14 = -1 ∧ PGc c v.2
def T_X3_read : Tr := fun av h N _ => ∃ (w : CW) (c : CS) (f : Nat) (t : Nat → Int) (n : Nat), av = [mR 25, mI n] ∧ h = hC w c ∧ CFG f c ∧ n ≤ 200 ∧ (∀ i : Nat, i < n → c.2.1 17 (i : Int) = t i ∧ 0 ≤ t i ∧ t i ≤ 255) ∧ ∀ c' : CS, FC (15 :: IR) IA [] c c' → RDc c' (pAll (t, n) f) → N none (hC w c')
abbrev e_X3_read  : NE := (ftX3, [(40, (2, 0, 0, false, (1, 0), T_J9_min_7cf53)), (53, (1, 0, 0, false, (0, 3), T_X3_advance)), (56, (1, 0, 0, false, (0, 3), (TH (OC 6) (fun f x => pRw x (pAt x f 6))))), (62, (2, 0, 0, false, (0, 3), T_X3_refuse))], ltX3, [], [], false, 0, (0, 0), [], [], [], true)
set_option maxHeartbeats 4000000 in
theorem s_X3_read : mm_Spec e_X3_read kX3_read 2 T_X3_read := by
  rintro N X K av h hK ⟨w, c, f, t, n, rfl, rfl, hFG, hn, ht, h2⟩
  have e1 : pAll (t, n) f = pB (pRw (t, n) (pAt (t, n) f 6) 0) (fun p ops => if tTk (t, n) p = -1 then .inr (p, ops) else .inl (1, tSt (t, n) p)) := rfl
  rw [e1] at h2
  refine ⟨rfl, hK [] _ _ _ _ _ _ ?_⟩
  refine ⟨_, _, rfl, ?_⟩
  rw [show (if ((200 : Nat) : Int) < (n : Int) then ((200 : Nat) : Int) else (n : Int)) = (n : Int) by rw [if_neg (by omega)]]
  obtain ⟨c0, hc0⟩ : ∃ c0, c0 = kI (kI (kI (kI (kI (kI c 21 0) 13 0) 14 (-1)) 15 (n : Int)) 16 0) 17 0 := ⟨_, rfl⟩
  have hF0 : FC (15 :: IR) IA [] c c0 := by rw [hc0]; exact FC_I (FC_I (FC_I (FC_I (FC_I (FC_I (FC_rf c) rfl) rfl) rfl) rfl) rfl) rfl
  have z21 : c0.1 21 = 0 := by rw [hc0]; rfl
  have z13 : c0.1 13 = 0 := by rw [hc0]; rfl
  have z14 : c0.1 14 = -1 := by rw [hc0]; rfl
  have z15 : c0.1 15 = (n : Int) := by rw [hc0]; rfl
  have z16 : c0.1 16 = 0 := by rw [hc0]; rfl
  have z17 : c0.1 17 = 0 := by rw [hc0]; rfl
  have hT0 : TPc (t, n) c0 := ⟨z15, hn, fun i hi => by rw [hF0.2.1 17 rfl]; exact ht i hi⟩
  have hFG0 : CFG f c0 := ⟨CF_fr hFG.1 hF0 rfl rfl, CG_fr hFG.2 hF0 rfl rfl⟩
  refine ⟨w, c0, (t, n), 0, rfl, by rw [hc0]; rfl, hT0, z16, Nat.zero_le _, fun c1 hF1 hk => ?_⟩
  have hP1 : PXc (t, n) c1 (.inr 0) := ⟨⟨(hF1.1 13 rfl).trans z13, (hF1.1 14 rfl).trans z14⟩, hk⟩
  have hF01 : FC (15 :: IR) IA [] c c1 := FC_tr hF0 hF1 rfl rfl rfl
  have h21 : c1.1 21 = 0 := (hF1.1 21 rfl).trans z21
  have hG1 : PGc c1 [] := ⟨h21, fun i hi => absurd hi (Nat.not_lt_zero i)⟩
  have h17 : c1.1 17 = 0 := (hF1.1 17 rfl).trans z17
  refine ⟨w, c1, f, (t, n), .inr 0, [], rfl, rfl, ⟨CF_fr hFG0.1 hF1 rfl rfl, CG_fr hFG0.2 hF1 rfl rfl⟩, TPc_fr hT0 hF1 rfl rfl, hP1, ⟨by omega, fun p hp => by cases hp; exact ⟨hG1, Nat.le_refl _⟩⟩, by omega, fun _ _ => ⟨by omega, by rw [h17]; rfl⟩, fun c2 hF2 g17 hH => ?_⟩
  have hF02 : FC (15 :: IR) IA [] c c2 := FC_tr hF01 hF2 rfl rfl rfl
  have hT2 : TPc (t, n) c2 := TPc_fr (TPc_fr hT0 hF1 rfl rfl) hF2 rfl rfl
  have hH : PH (t, n) c2 [] (pRw (t, n) (pAt (t, n) f 6) 0) := hH
  cases hr : pRw (t, n) (pAt (t, n) f 6) 0 with
  | inl e =>
    rw [hr] at hH h2
    have e7 := hH.1.2.2.2.2.2.2
    refine And.intro (fun _ => ?_) (fun q => absurd q (by omega))
    exact h2 c2 hF02 ⟨hH.1.1, hH.1.2.1, hH.1.2.2.1, hH.1.2.2.2.1, hH.1.2.2.2.2.1⟩
  | inr v =>
    rw [hr] at hH h2
    have h2 : ∀ c' : CS, FC (15 :: IR) IA [] c c' → RDc c' (if tTk (t, n) v.1 = -1 then .inr v else .inl (1, tSt (t, n) v.1)) → N none (hC w c') := h2
    have e3 := hH.1.2.2.2.1
    conv => whnf
    rw [e3]
    refine And.intro (fun q => ?_) (fun q => ?_)
    · rw [if_pos q] at h2
      exact h2 c2 hF02 ⟨hH.1.1.1, hH.1.1.2, hH.2.1⟩
    · rw [if_neg q] at h2
      refine ⟨w, c2, (t, n), .inr v.1, 1, rfl, rfl, hT2, hH.1, by omega, by omega, fun c3 hF3 hP3 => ?_⟩
      exact h2 c3 (FC_tr hF02 hF3 rfl rfl rfl) ⟨hP3.1, hP3.2.1, hP3.2.2.1, hP3.2.2.2.1, hP3.2.2.2.2.1⟩
theorem m_X3_read  (l : Launch) : mm_Met l yX3_read cX3_read 2 none (48) 0 0 (T_X3_read) := mm_met3 (E := e_X3_read ) (cd := kX3_read) (s_X3_read ) (by decide) kX3_read_ok (by decide +kernel) (by rfl) (Or.inl ⟨rfl, rfl⟩) rfl (mm_eok_X3 _) (mm_cq_cons (mm_CQ_min wi_J9_min_7cf53 (tb3 (i := 177) rfl rfl) (by omega)) (mm_cq_cons (mm_CQ_of (mm_cbv wi_X3_advance (tb3 (i := 180) rfl rfl) (m_X3_advance l) (by omega) (by omega) rfl)) (mm_cq_cons (mm_CQ_of (mm_cbv wi_X3_readSum (tb3 (i := 187) rfl rfl) (m_sumC l) (by omega) (by omega) rfl)) (mm_cq_cons (mm_CQ_of (mm_cbv wi_X3_refuse (tb3 (i := 211) rfl rfl) (m_X3_refuse l) (by omega) (by omega) rfl)) (mm_cq_nil)))))
