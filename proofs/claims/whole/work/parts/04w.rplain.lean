/-! the reference: atoms without brackets -/
def FRq (s s' : RS) : Prop := FR [30, 31, 32, 33, 34, 35, 37, 38, 40] [] [18, 24, 25] s s' ∧ ∀ i : Int, i < 2048 → s'.2.2 24 i = s.2.2 24 i
theorem FRq_rf (s : RS) : FRq s s := ⟨FR_rf s, fun _ _ => rfl⟩
theorem FRq_tr {s s' s2 : RS} (h : FRq s s') (h2 : FRq s' s2) : FRq s s2 := ⟨FR_tr h.1 h2.1 rfl rfl rfl, fun i hi => (h2.2 i hi).trans (h.2 i hi)⟩
theorem FRq_of {I : List Nat} {s s' : RS} (h : FR I [] [] s s') (hI : I.all (fun j => mm_mem j [30, 31, 32, 33, 34, 35, 37, 38, 40]) = true) : FRq s s' := ⟨FR_mono h hI rfl rfl, fun i _ => by rw [h.2.2 24 rfl]⟩
theorem FRq_I {s s' : RS} {k : Nat} {v : Int} (h : FRq s s') (hk : mm_mem k [30, 31, 32, 33, 34, 35, 37, 38, 40] = true) : FRq s (sI s' k v) := ⟨FR_I h.1 hk, h.2⟩
theorem FRq_g {s : RS} {f a : Nat} {V : Nat → Int64} {L : Nat → Int → Int64} (ha : 8 ≤ a) (hL : ∀ k, k ≠ 18 → k ≠ 24 → k ≠ 25 → L k = s.2.2 k) (hs : slotS f a V (s.2.2 24) (L 24)) : FRq s (s.1, s.2.1, L) := by
  refine ⟨⟨fun _ _ => rfl, fun _ _ => rfl, fun k hk => hL k ?_ ?_ ?_⟩, fun i hi => ?_⟩
  · exact mm_mem_ne (k := 18) rfl hk
  · exact mm_mem_ne (k := 24) rfl hk
  · exact mm_mem_ne (k := 25) rfl hk
  · show L 24 i = _
    rw [hs i, if_neg (by omega)]
theorem RA_q {f : Nat} {s s' : RS} (h : RA f s) (hF : FRq s s') : RA f s' := RA_fr h hF.1 rfl rfl rfl
theorem TPR_q {x : TP} {s s' : RS} (h : TPR x s) (hF : FRq s s') : TPR x s' := TPR_fr h hF.1 rfl rfl
theorem bi_small {f : Nat} {V : VL} : (bi (small f V) = 0 → (1 : Int) = if small f V then 0 else 1) ∧ (¬ bi (small f V) = 0 → (0 : Int) = if small f V then 0 else 1) := by
  constructor
  · intro h; rw [if_neg (bi_c0 h)]
  · intro h; rw [if_pos (bi_c1 h)]
/-- a value has come into slot 8 + n: what isGreat says -/
theorem comes_of {w : FW} {f n : Nat} {V : VL} {L : List VL} {s : RS} {Lf : Nat → Int → Int64} {Q : Option MV → HP → Prop} (hf : fD f ≤ 256) (hE : RE f s (some L) n) (hs : slotS f (8 + n) V (s.2.2 24) (Lf 24)) (hL : ∀ k, k ≠ 18 → k ≠ 24 → k ≠ 25 → Lf k = s.2.2 k) (h : ∀ s' : RS, FRq s s' → FR [40] [] [18, 24, 25] s s' → RE f s' (tst f V L) (n + 1) → Q none (hR w s')) : T_X10_comes [mR 1000, mI (bi (small f V))] (hR w (s.1, s.2.1, Lf)) Q (fun _ _ => False) := by
  have hF := FRq_g (by omega) hL hs
  have hF2 : FR [40] [] [18, 24, 25] s (s.1, s.2.1, Lf) := ⟨fun _ _ => rfl, fun _ _ => rfl, hF.1.2.2⟩
  have hlow : ∀ i : Int, i < 256 * ((8 + n : Nat) : Int) → Lf 24 i = s.2.2 24 i := fun i hi => by rw [hs i, if_neg (by omega)]
  have hv : ∀ t : Nat, t < fD f → Lf 24 (256 * ((8 + n : Nat) : Int) + t) = V t := fun t ht => slotS_at hf hs ht
  have hz : ∀ t : Nat, fD f ≤ t → t < 256 → Lf 24 (256 * ((8 + n : Nat) : Int) + t) = 0 := fun t h1 h2 => by rw [hs, if_pos (by omega), if_neg (by omega)]
  refine ⟨w, (s.1, s.2.1, Lf), _, rfl, rfl, fun q => ?_, fun q => ?_⟩
  · exact h _ (FRq_I hF rfl) (FR_I hF2 rfl) (RE_mk (s' := sI (s.1, s.2.1, Lf) 40 1) hf hE rfl (bi_small.1 q) hlow (fun _ => hv) hz)
  · exact h _ hF hF2 (RE_mk (s' := (s.1, s.2.1, Lf)) hf hE rfl (hE.2.2.2.1.trans (bi_small.2 q)) hlow (fun _ => hv) hz)
/-- a value has come into slot 32, and is copied to slot 8 + n -/
theorem comes_copy {w : FW} {f n : Nat} {V : VL} {L : List VL} {s s1 : RS} {v : Int → Int64} (hf : fD f ≤ 256) (hE : RE f s (some L) n) (h39 : s1.1 39 = s.1 39) (h40 : s1.1 40 = if small f V then 0 else 1) (hs : slotS f 32 V (s.2.2 24) (s1.2.2 24)) (hn : n ≤ 20) (hv : ∀ i : Int, v i = if 256 * ((8 + n : Nat) : Int) ≤ i ∧ i < 256 * ((8 + n : Nat) : Int) + 256 then s1.2.2 24 (256 * ((32 : Nat) : Int) + (i - 256 * ((8 + n : Nat) : Int))) else s1.2.2 24 i) : RE f (sL s1 24 v) (tst f V L) (n + 1) := by
  refine RE_mk (s' := sL s1 24 v) hf hE h39 h40 (fun i hi => ?_) (fun _ t ht => ?_) (fun t ht ht2 => ?_)
  · show v i = _
    rw [hv, if_neg (by omega), hs i, if_neg (by omega)]
  · show v _ = _
    rw [hv, if_pos (by omega), show 256 * ((8 + n : Nat) : Int) + (t : Int) - 256 * ((8 + n : Nat) : Int) = (t : Int) by omega, slotS_at hf hs ht]
  · show v _ = _
    rw [hv, if_pos (by omega), show 256 * ((8 + n : Nat) : Int) + (t : Int) - 256 * ((8 + n : Nat) : Int) = (t : Int) by omega, hs, if_pos (by omega), if_neg (by omega)]
theorem FRq_copy {f n : Nat} {V : VL} {s s1 : RS} {v : Int → Int64} (hF : FRq s s1) (hn : n ≤ 20) (hv : ∀ i : Int, v i = if 256 * ((8 + n : Nat) : Int) ≤ i ∧ i < 256 * ((8 + n : Nat) : Int) + 256 then s1.2.2 24 (256 * ((32 : Nat) : Int) + (i - 256 * ((8 + n : Nat) : Int))) else s1.2.2 24 i) : FRq s (sL s1 24 v) := by
  refine ⟨FR_L hF.1 rfl, fun i hi => ?_⟩
  show v i = _
  rw [hv, if_neg (by omega)]
  exact hF.2 i hi
def T_X10_moveHere : Tr := fun av h N _ => ∃ (w : FW) (s : RS) (f n m : Nat) (V : VL) (L : List VL), av = [mR 1000, mI ((8 + n : Nat) : Int), mI m] ∧ h = hR w s ∧ RQ f s ∧ m ≤ 506 ∧ n ≤ 20 ∧ RE f s (some (V :: L)) (n + 1) ∧ ∀ s' : RS, FRq s s' → FR [40] [] [18, 24, 25] s s' → RE f s' (tst f (mvV f V m) L) (n + 1) → N none (hR w s')
abbrev e_X10_moveHere : NE := (ftX10, [(330, (4, 0, 0, false, (0, 10), T_X10_move)), (275, (2, 0, 0, false, (0, 10), T_X10_comes)), (279, (3, 0, 0, false, (0, 10), T_X10_copy))], ltX10, [], [], false, 0, (0, 0), [], [], [], false)
theorem s_X10_moveHere : mm_Spec e_X10_moveHere kX10_moveHere 3 T_X10_moveHere := by
  rintro N X K av h hK ⟨w, s, f, n, m, V, L, rfl, rfl, hQ, hm, hn, hE, h2⟩
  have hb := fbase hQ.1
  obtain ⟨hE1, hV⟩ := RE_pop hE
  refine ⟨rfl, hK [] _ _ _ _ _ _ ?_⟩
  refine ⟨w, s, f, 32, 8 + n, m, rfl, rfl, hQ, by omega, by omega, hm, fun Lf hL hs => ?_⟩
  have hF := FRq_g (by omega) hL hs
  have hs2 : slotS f 32 (mvV f V m) (s.2.2 24) (Lf 24) := slotS_congr (fun t ht => mvV_congr hV m t) hs
  rw [show bi (small f (mvV f (fun t => s.2.2 24 (256 * ((8 + n : Nat) : Int) + t)) m)) = bi (small f (mvV f V m)) from small_congr (fun t ht => mvV_congr hV m t)]
  have fin : ∀ s1 : RS, FRq s s1 → FR [40] [] [18, 24, 25] s s1 → s1.1 40 = (if small f (mvV f V m) then 0 else 1) → s1.2.2 24 = Lf 24 → T_X10_copy [mR 1000, mI ((8 + n : Nat) : Int), mI 32] (hR w s1) N (fun _ _ => False) := by
    intro s1 hF1 hF2 h40 h24
    refine ⟨w, s1, 8 + n, 32, rfl, rfl, by omega, by omega, fun v hv => ?_⟩
    exact h2 _ (FRq_copy (f := f) (V := V) hF1 hn hv) (FR_L hF2 rfl) (comes_copy (w := w) (by omega) hE1 (hF2.1 39 rfl) h40 (by rw [h24]; exact hs2) hn hv)
  refine ⟨w, (s.1, s.2.1, Lf), _, rfl, rfl, fun q => ?_, fun q => ?_⟩
  · exact fin (sI (s.1, s.2.1, Lf) 40 1) (FRq_I hF rfl) (FR_I ⟨fun _ _ => rfl, fun _ _ => rfl, hF.1.2.2⟩ rfl) (bi_small.1 q) rfl
  · exact fin (s.1, s.2.1, Lf) hF ⟨fun _ _ => rfl, fun _ _ => rfl, hF.1.2.2⟩ (hE.2.2.2.1.trans (bi_small.2 q)) rfl
theorem m_X10_moveHere (l : Launch) : mm_Met l yX10_moveHere cX10_moveHere 3 none 4 0 0 T_X10_moveHere := mm_met (E := e_X10_moveHere) (cd := kX10_moveHere) s_X10_moveHere (by decide) kX10_moveHere_ok (by decide +kernel) (by decide +kernel) (Or.inl ⟨rfl, rfl⟩) rfl (mm_eok_X10 _) (mm_calls_cons (mm_cbv wi_X10_move (tb7 (i := 22) rfl rfl) (m_X10_move l) (by decide) (by decide) rfl) (mm_calls_cons (mm_cbv wi_X10_comes (tb7 (i := 14) rfl rfl) (m_X10_comes l) (by decide) (by decide) rfl) (mm_calls_cons (mm_cbv wi_X10_copy (tb7 (i := 30) rfl rfl) (m_X10_copy l) (by decide) (by decide) rfl) (mm_calls_nil))))
def pwE (f : Nat) (V : VL) (m : Nat) (L : List VL) : Option (List VL) := if m = 0 then tst f (fun t => if t = 0 then 1 else 0) L else pwV f V (m - 1) V L
theorem pwV_congr {f : Nat} {V V' : VL} (hV : ∀ t, t < fD f → V t = V' t) : ∀ (n : Nat) (P P' : VL) (L : List VL), (∀ t, t < fD f → P t = P' t) → (pwV f V n P L = none ↔ pwV f V' n P' L = none)
  | 0, _, _, _, _ => by constructor <;> intro h <;> cases h
  | n + 1, P, P', L, hP => by
    unfold pwV
    have hc : ∀ t, t < fD f → mulV f P V t = mulV f P' V' t := fun t _ => mulV_congr hP hV t
    have hsm : small f (mulV f P V) ↔ small f (mulV f P' V') := ⟨fun q t ht => by rw [← hc t ht]; exact q t ht, fun q t ht => by rw [hc t ht]; exact q t ht⟩
    by_cases q : small f (mulV f P V)
    · rw [if_pos q, if_pos (hsm.mp q)]
      exact pwV_congr hV n _ _ L hc
    · rw [if_neg q, if_neg (fun z => q (hsm.mpr z))]
def T_X10_raiseValue : Tr := fun av h N _ => ∃ (w : FW) (s : RS) (f n m : Nat) (V : VL) (L : List VL), av = [mR 1000, mI ((8 + n : Nat) : Int), mI m] ∧ h = hR w s ∧ RQ f s ∧ m ≤ 20 ∧ n ≤ 20 ∧ RE f s (some (V :: L)) (n + 1) ∧ ∀ s' : RS, FRq s s' → FR [40] [] [18, 24, 25] s s' → RE f s' (pwE f V m L) (n + 1) → N none (hR w s')
abbrev e_X10_raiseValue : NE := (ftX10, [(302, (3, 0, 0, false, (0, 10), T_X10_whole)), (275, (2, 0, 0, false, (0, 10), T_X10_comes)), (279, (3, 0, 0, false, (0, 10), T_X10_copy)), (289, (4, 0, 0, false, (0, 10), T_X10_product))], ltX10, [], [], false, 0, (0, 0), [], [], [], false)
set_option maxHeartbeats 4000000 in
theorem s_X10_raiseValue : mm_Spec e_X10_raiseValue kX10_raiseValue 4 T_X10_raiseValue := by
  rintro N X K av h hK ⟨w, s, f, n, m, V, L, rfl, rfl, hQ, hm, hn, hE, h2⟩
  have hb := fbase hQ.1
  obtain ⟨hE1, hV⟩ := RE_pop hE
  -- the products
  have loop : ∀ (k i : Nat) (P : VL) (s1 : RS), i + k = m → 1 ≤ i → FRq s s1 → FR [40] [] [18, 24, 25] s s1 → RE f s1 (some (P :: L)) (n + 1) → (∀ t : Nat, t < fD f → s1.2.2 24 (256 * ((33 : Nat) : Int) + t) = V t) → pwV f V k P L = pwE f V m L → K 24 [some (mR 1000), some (mI ((8 + n : Nat) : Int)), some (mI m), some (mI i)] [] (hR w s1) 0 0 := by
    intro k
    induction k with
    | zero =>
      intro i P s1 hi hi1 hF hF2 hE' h33 hr
      refine hK [24] _ _ _ _ _ _ ?_
      refine And.intro (fun _ => ?_) (fun q => absurd q (by omega))
      refine h2 s1 hF hF2 ?_
      rw [← hr]
      exact hE'
    | succ k ih =>
      intro i P s1 hi hi1 hF hF2 hE' h33 hr
      have hQ1 := RQ_fr hQ hF.1 rfl rfl rfl
      obtain ⟨hE1', hV'⟩ := RE_pop hE'
      have h40 := hE'.2.2.2.1
      refine hK [24, 49] _ _ _ _ _ _ ?_
      refine And.intro (fun q => absurd q (by omega)) (fun _ => ?_)
      refine And.intro (fun q => absurd q (by omega)) (fun _ => ?_)
      refine ⟨w, s1, f, 32, 8 + n, 33, rfl, rfl, hQ1, by omega, by omega, by omega, fun Lf hL hs => ?_⟩
      have hFg := FRq_g (by omega) hL hs
      have hcg : ∀ t, t < fD f → mulV f (fun t => s1.2.2 24 (256 * ((8 + n : Nat) : Int) + t)) (fun t => s1.2.2 24 (256 * ((33 : Nat) : Int) + t)) t = mulV f P V t := fun t _ => mulV_congr hV' h33 t
      have hs2 : slotS f 32 (mulV f P V) (s1.2.2 24) (Lf 24) := slotS_congr hcg hs
      rw [show bi (small f (mulV f (fun t => s1.2.2 24 (256 * ((8 + n : Nat) : Int) + t)) (fun t => s1.2.2 24 (256 * ((33 : Nat) : Int) + t)))) = bi (small f (mulV f P V)) from small_congr hcg]
      have hr : (if small f (mulV f P V) then pwV f V k (mulV f P V) L else none) = pwE f V m L := hr
      have hF3 : FR [40] [] [18, 24, 25] s1 (s1.1, s1.2.1, Lf) := ⟨fun _ _ => rfl, fun _ _ => rfl, hFg.1.2.2⟩
      have fin : ∀ s3 : RS, FRq s s3 → FR [40] [] [18, 24, 25] s s3 → FR [40] [] [18, 24, 25] s1 s3 → s3.1 40 = (if small f (mulV f P V) then 0 else 1) → s3.2.2 24 = Lf 24 → K 49 [some (mR 1000), some (mI ((8 + n : Nat) : Int)), some (mI m), some (mI i)] [] (hR w s3) 0 0 := by
        intro s3 hFa hFb hFc h40' h24
        refine hK [24] _ _ _ _ _ _ ?_
        refine ⟨w, s3, 8 + n, 32, rfl, rfl, by omega, by omega, fun v hv => ?_⟩
        have hEn := comes_copy (w := w) (by omega) hE1' (hFc.1 39 rfl) h40' (by rw [h24]; exact hs2) hn hv
        have hFn : FRq s (sL s3 24 v) := FRq_copy (f := f) (V := V) hFa hn hv
        have hFm : FR [40] [] [18, 24, 25] s (sL s3 24 v) := FR_L hFb rfl
        by_cases q : small f (mulV f P V)
        · rw [if_pos q] at hr
          unfold tst at hEn
          rw [if_pos q] at hEn
          refine And.intro (rng_of (by omega) (by omega)) ?_
          refine ih (i + 1) (mulV f P V) (sL s3 24 v) (by omega) (by omega) hFn hFm hEn (fun t ht => ?_) hr
          show v _ = _
          rw [hv, if_neg (by omega), h24, hs2, if_neg (by omega)]
          exact h33 t ht
        · rw [if_neg q] at hr
          unfold tst at hEn
          rw [if_neg q] at hEn
          have h401 : (sL s3 24 v).1 40 = 1 := by
            show s3.1 40 = 1
            rw [h40', if_neg q]
          have stop : K 24 [some (mR 1000), some (mI ((8 + n : Nat) : Int)), some (mI m), some (mI ((i : Int) + 1))] [] (hR w (sL s3 24 v)) 0 0 := by
            have done : N none (hR w (sL s3 24 v)) := h2 _ hFn hFm (by rw [← hr]; exact hEn)
            refine hK [] _ _ _ _ _ _ ?_
            refine And.intro (fun _ => done) (fun _ => ?_)
            exact And.intro (fun _ => done) (fun z => absurd z (by rw [h401]; decide))
          refine And.intro (rng_of (by omega) (by omega)) ?_
          exact stop
      refine ⟨w, (s1.1, s1.2.1, Lf), _, rfl, rfl, fun q => ?_, fun q => ?_⟩
      · exact fin (sI (s1.1, s1.2.1, Lf) 40 1) (FRq_I (FRq_tr hF hFg) rfl) (FR_I (FR_tr hF2 hF3 rfl rfl rfl) rfl) (FR_I hF3 rfl) (bi_small.1 q) rfl
      · exact fin (s1.1, s1.2.1, Lf) (FRq_tr hF hFg) (FR_tr hF2 hF3 rfl rfl rfl) hF3 (h40.trans (bi_small.2 q)) rfl
  refine ⟨rfl, hK [24] _ _ _ _ _ _ ?_⟩
  refine And.intro (fun q => ?_) (fun q => ?_)
  · refine ⟨w, s, 33, 8 + n, rfl, rfl, by omega, by omega, fun v hv => ?_⟩
    refine loop (m - 1) 1 V (sL s 24 v) (by omega) (by omega) ⟨FR_L (FR_rf s) rfl, fun i hi => ?_⟩ (FR_L (FR_rf s) rfl) ?_ (fun t ht => ?_) ?_
    · show v i = _
      rw [hv, if_neg (by omega)]
    · obtain ⟨a1, a2, a3, a4, a5, a6⟩ := hE
      refine ⟨a1, a2, a3, a4, a5, RSt_low (by omega) (fun i hi => ?_) a6⟩
      rw [a5] at hi
      show v i = _
      rw [hv, if_neg (by omega)]
    · show v _ = _
      rw [hv, if_pos (by omega), show 256 * ((33 : Nat) : Int) + (t : Int) - 256 * ((33 : Nat) : Int) = (t : Int) by omega]
      exact hV t ht
    · unfold pwE
      rw [if_neg (by omega)]
  · have hm0 : m = 0 := by omega
    refine ⟨w, s, f, 8 + n, 1, rfl, rfl, hQ, by omega, fun Lf hL hs => ?_⟩
    refine comes_of (by omega) hE1 hs hL (fun s' hF hF2 hE' => h2 s' hF hF2 ?_)
    unfold pwE
    rw [if_pos hm0]
    exact hE'
theorem m_X10_raiseValue (l : Launch) : mm_Met l yX10_raiseValue cX10_raiseValue 4 none 4 0 0 T_X10_raiseValue := mm_met (E := e_X10_raiseValue) (cd := kX10_raiseValue) s_X10_raiseValue (by decide) kX10_raiseValue_ok (by decide +kernel) (by decide +kernel) (Or.inl ⟨rfl, rfl⟩) rfl (mm_eok_X10 _) (mm_calls_cons (mm_cbv wi_X10_whole (tb7 (i := 53) rfl rfl) (m_X10_whole l) (by decide) (by decide) rfl) (mm_calls_cons (mm_cbv wi_X10_comes (tb7 (i := 14) rfl rfl) (m_X10_comes l) (by decide) (by decide) rfl) (mm_calls_cons (mm_cbv wi_X10_copy (tb7 (i := 30) rfl rfl) (m_X10_copy l) (by decide) (by decide) rfl) (mm_calls_cons (mm_cbv wi_X10_product (tb7 (i := 117) rfl rfl) (m_X10_product l) (by decide) (by decide) rfl) (mm_calls_nil)))))
