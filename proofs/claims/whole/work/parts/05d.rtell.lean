/-! the reference: a whole text -/
def FRa (s s' : RS) : Prop := FR [29, 30, 31, 32, 33, 34, 35, 37, 38, 39, 40] [] [18, 24, 25] s s' ∧ ∀ i : Int, i < 2048 → s'.2.2 24 i = s.2.2 24 i
theorem FRa_q {s s1 s' : RS} (h : FRa s s1) (h2 : FRq s1 s') : FRa s s' := ⟨FR_tr h.1 h2.1 rfl rfl rfl, fun i hi => (h2.2 i hi).trans (h.2 i hi)⟩
theorem FRa_tr {s s1 s' : RS} (h : FRa s s1) (h2 : FRa s1 s') : FRa s s' := ⟨FR_tr h.1 h2.1 rfl rfl rfl, fun i hi => (h2.2 i hi).trans (h.2 i hi)⟩
theorem FRa_I {s s' : RS} {k : Nat} {v : Int} (h : FRa s s') (hk : mm_mem k [29, 30, 31, 32, 33, 34, 35, 37, 38, 39, 40] = true) : FRa s (sI s' k v) := ⟨FR_I h.1 hk, h.2⟩
theorem FRa_rf (s : RS) : FRa s s := ⟨FR_rf s, fun _ _ => rfl⟩
theorem RR_a {a : AS} {s s' : RS} (h : RR a s) (hF : FRa s s') : RR a s' := RR_fr h hF.1 rfl rfl rfl (fun i t hi ht => hF.2 _ (by omega))
def PA (a : AS) (x : TP) (s : RS) (rk : Int) (r : Int) : PR (List OP) → Prop
  | .inl e => PX x s (.inl e)
  | .inr v => s.1 34 = 0 ∧ RE (aF a) s (evs a v.2 (if rk = 1 then some [] else none)) 1 ∧ r = 8
def T_X10_readAll : Tr := fun av h N _ => ∃ (w : FW) (s : RS) (a : AS) (n : Nat) (rk : Int), av = [mR 1000, mI n, mI rk] ∧ h = hR w s ∧ RA (aF a) s ∧ n ≤ 200 ∧ (∀ i : Nat, i < n → s.2.1 27 (i : Int) = aTt a i ∧ 0 ≤ aTt a i ∧ aTt a i ≤ 255) ∧ (∀ i t : Nat, i < 8 → t < 256 → s.2.2 24 (256 * (i : Int) + t) = if t < fD (aF a) then Int64.ofInt (aP a i t) else 0) ∧ (rk = 0 ∨ rk = 1) ∧ ∀ (s' : RS) (r : Int), FRa s s' → s'.1 39 = rk → PA a (aTt a, n) s' rk r (pAll (aTt a, n) (aF a)) → N (some (mI r)) (hR w s')
abbrev e_X10_readAll  : NE := (ftX10, [(247, (1, 0, 0, false, (0, 10), T_X10_step)), (312, (1, 0, 0, false, (0, 10), (TG (OL 12 6) (fun a x => pRw x (pAt x (aF a) 6))))), (250, (2, 0, 0, false, (0, 10), T_X10_wrong))], ltX10, [], [], false, 1, (0, 0), [], [], [], false)
set_option maxHeartbeats 4000000 in
theorem s_X10_readAll : mm_Spec e_X10_readAll kX10_readAll 4 T_X10_readAll := by
  rintro N X K av h hK ⟨w, s, a, n, rk, rfl, rfl, hA, hn, ht, hv, hrk, h2⟩
  have hb := fbase hA.1.1
  have e1 : pAll (aTt a, n) (aF a) = pB (pRw (aTt a, n) (pAt (aTt a, n) (aF a) 6) 0) (fun p ops => if tTk (aTt a, n) p = -1 then .inr (p, ops) else .inl (1, tSt (aTt a, n) p)) := rfl
  rw [e1] at h2
  refine ⟨rfl, hK [] _ _ _ _ _ _ ?_⟩
  refine And.intro (Or.inl rfl) ?_
  refine And.intro hrk ?_
  obtain ⟨s0, hs0⟩ : ∃ s0, s0 = sI (sI (sI (sI (sI (sI (sI s 29 (n : Int)) 30 0) 34 0) 37 0) 38 0) 40 0) 39 rk := ⟨_, rfl⟩
  have hF0 : FRa s s0 := by rw [hs0]; exact FRa_I (FRa_I (FRa_I (FRa_I (FRa_I (FRa_I (FRa_I (FRa_rf s) rfl) rfl) rfl) rfl) rfl) rfl) rfl
  have z29 : s0.1 29 = (n : Int) := by rw [hs0]; rfl
  have z30 : s0.1 30 = 0 := by rw [hs0]; rfl
  have z34 : s0.1 34 = 0 := by rw [hs0]; rfl
  have z37 : s0.1 37 = 0 := by rw [hs0]; rfl
  have z38 : s0.1 38 = 0 := by rw [hs0]; rfl
  have z39 : s0.1 39 = rk := by rw [hs0]; rfl
  have z40 : s0.1 40 = 0 := by rw [hs0]; rfl
  have hA0 : RA (aF a) s0 := RA_fr hA hF0.1 rfl rfl rfl
  have hT0 : TPR (aTt a, n) s0 := ⟨z29, hn, fun i hi => by rw [hF0.1.2.1 27 rfl]; exact ht i hi⟩
  refine ⟨w, s0, (aTt a, n), 0, rfl, by rw [hs0]; rfl, hT0, z30, Nat.zero_le _, fun s1 hF1 hTK => ?_⟩
  have hF01 : FRa s s1 := FRa_q hF0 (FRq_of hF1 rfl)
  have hW1 : RW a (aTt a, n) s1 := by
    refine ⟨RA_fr hA0 hF1 rfl rfl rfl, TPR_fr hT0 hF1 rfl rfl, fun i t hi ht' => ?_, fun i t hi ht' ht2 => ?_⟩
    · rw [hF01.2 _ (by omega), hv i t hi (by omega), if_pos ht']
    · rw [hF01.2 _ (by omega), hv i t hi ht2, if_neg (by omega)]
  have hE1 : RE (aF a) s1 (if rk = 1 then some [] else none) 0 := by
    have q39 : s1.1 39 = rk := (hF1.1 39 rfl).trans z39
    have q40 : s1.1 40 = 0 := (hF1.1 40 rfl).trans z40
    refine ⟨by omega, by omega, ?_⟩
    by_cases q : rk = 1
    · rw [if_pos q]
      exact ⟨by omega, q40, rfl, trivial⟩
    · rw [if_neg q]
      exact Or.inl (by omega)
  refine ⟨w, s1, a, (aTt a, n), .inr 0, 0, _, rfl, rfl, hW1, ⟨(hF1.1 34 rfl).trans z34, hTK⟩, hE1, by omega, (hF1.1 38 rfl).trans z38, by rw [hF1.1 37 rfl, z37]; omega, fun p _ => ⟨by omega, by rw [hF1.1 37 rfl, z37]; rfl, by omega⟩, fun s2 r hF2 h37 hG => ?_⟩
  have hF02 : FRa s s2 := FRa_q hF01 hF2
  have h39 : s2.1 39 = rk := (hF2.1.1 39 rfl).trans ((hF1.1 39 rfl).trans z39)
  have hG : PG a (aTt a, n) s2 (if rk = 1 then some [] else none) 0 r (pRw (aTt a, n) (pAt (aTt a, n) (aF a) 6) 0) := hG
  cases hr : pRw (aTt a, n) (pAt (aTt a, n) (aF a) 6) 0 with
  | inl e =>
    rw [hr] at hG h2
    have b1 := hG.1.1
    have b2 := hG.1.2.1
    refine And.intro (fun _ => ?_) (fun q => absurd q (by omega))
    exact h2 s2 r hF02 h39 hG.1
  | inr v =>
    rw [hr] at hG h2
    obtain ⟨g1, g2, g3, rfl⟩ := hG
    have g0 := g1.1
    have h2 : ∀ (s' : RS) (r : Int), FRa s s' → s'.1 39 = rk → PA a (aTt a, n) s' rk r (if tTk (aTt a, n) v.1 = -1 then .inr v else .inl (1, tSt (aTt a, n) v.1)) → N (some (mI r)) (hR w s') := h2
    refine And.intro (fun q => absurd q (by omega)) (fun _ => ?_)
    conv => whnf
    rw [g1.2.2.2.1]
    refine And.intro (fun q => ?_) (fun q => ?_)
    · have q := rtk_e.mp q
      rw [if_pos q] at h2
      exact h2 s2 _ hF02 h39 ⟨g0, g2, rfl⟩
    · have q : ¬ tTk (aTt a, n) v.1 = -1 := fun z => q (rtk_e.mpr z)
      rw [if_neg q] at h2
      refine ⟨w, s2, 1, rfl, rfl, fun z => absurd g0 z, fun _ => ?_⟩
      exact h2 _ _ (FRa_I (FRa_I hF02 rfl) rfl) h39 (PX_wrong (k := 1) (TPR_q hW1.2.1 hF2) g1 (by omega))
theorem m_X10_readAll  (l : Launch) : mm_Met l yX10_readAll cX10_readAll 4 (some .int) (41) 0 0 (T_X10_readAll) := mm_met (E := e_X10_readAll ) (cd := kX10_readAll) (s_X10_readAll ) (by decide) kX10_readAll_ok (by decide +kernel) (by rfl) (Or.inr (Or.inl ⟨rfl, rfl⟩)) rfl (mm_eok_X10 _) (mm_calls_cons (mm_cbv wi_X10_step (tb6 (i := 188) rfl rfl) (m_X10_step l) (by omega) (by omega) rfl) (mm_calls_cons (mm_cbv wi_X10_readRow (tb6 (i := 200) rfl rfl) (m_row l) (by omega) (by omega) rfl) (mm_calls_cons (mm_cbv wi_X10_wrong (tb6 (i := 220) rfl rfl) (m_X10_wrong l) (by omega) (by omega) rfl) (mm_calls_nil))))
