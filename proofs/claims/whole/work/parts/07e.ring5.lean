/-! the component's ring: the polynomial of the root -/
def mbL : Nat → Nat → Nat → Int → Int
  | 0, _, _, s => s
  | n + 1, p, r, s => if r % p = 0 then (if r / p % p = 0 then 0 else mbL n (p + 1) (r / p) (-s)) else mbL n (p + 1) r s
def mbX (m : Nat) : Int := mbL (m - 1) 2 m 1
def T_X4_moebius : Tr := fun av h N _ => ∃ m : Nat, av = [mI m] ∧ 1 ≤ m ∧ m ≤ 506 ∧ N (some (mI (mbX m))) h
abbrev e_X4_moebius : NE := (ftX4, [], ltX4, [], [], false, 1, (0, 0), [], [], [], true)
theorem s_X4_moebius : mm_Spec e_X4_moebius kX4_moebius 4 T_X4_moebius := by
  rintro N X K av h hK ⟨m, rfl, hm1, hm, h2⟩
  have loop : ∀ (n p r : Nat) (s : Int), p + n = m + 1 → 2 ≤ p → r ≤ 506 → (s = 1 ∨ s = -1) → mbL n p r s = mbX m → K 6 [some (mI m), some (mI s), some (mI r), some (mI p)] [] h 0 0 := by
    intro n
    induction n with
    | zero =>
      intro p r s hp hp2 hr hs he
      have he : s = mbX m := he
      rw [← he] at h2
      refine hK [] _ _ _ _ _ _ ?_
      refine And.intro (fun _ => ?_) (fun q => absurd q (by omega))
      exact h2
    | succ n ih =>
      intro p r s hp hp2 hr hs he
      have hrd := Nat.div_le_self r p
      have he : (if r % p = 0 then (if r / p % p = 0 then 0 else mbL n (p + 1) (r / p) (-s)) else mbL n (p + 1) r s) = mbX m := he
      refine hK [6] _ _ _ _ _ _ ?_
      refine And.intro (fun q => absurd q (by omega)) (fun _ => ?_)
      refine And.intro (dv_ok (by omega) (by omega)) ?_
      rw [tmn]
      refine And.intro (fun q => ?_) (fun q => ?_)
      · rw [if_neg (by omega)] at he
        refine And.intro (dv_ok (by omega) (by omega)) ?_
        rw [tmn]
        refine And.intro (fun _ => ?_) (fun q => absurd q (by omega))
        refine And.intro (rng_of (by omega) (by omega)) ?_
        exact ih (p + 1) r s (by omega) (by omega) hr hs he
      · rw [if_pos (by omega)] at he
        refine And.intro (dv_ok (by omega) (by omega)) ?_
        rw [tdn]
        refine And.intro (rng_of (by omega) (by omega)) ?_
        refine And.intro (dv_ok (by omega) (by omega)) ?_
        rw [tmn]
        refine And.intro (fun q2 => ?_) (fun q2 => ?_)
        · rw [if_neg (by omega)] at he
          refine And.intro (rng_of (by omega) (by omega)) ?_
          exact ih (p + 1) (r / p) (-s) (by omega) (by omega) (by omega) (by omega) he
        · rw [if_pos (by omega)] at he
          rw [← he] at h2
          exact h2
  refine ⟨rfl, hK [6] _ _ _ _ _ _ ?_⟩
  exact loop (m - 1) 2 m 1 (by omega) (by omega) hm (Or.inl rfl) rfl
theorem m_X4_moebius (l : Launch) : mm_Met l yX4_moebius cX4_moebius 4 (some .int) 0 0 0 T_X4_moebius := mm_met (E := e_X4_moebius) (cd := kX4_moebius) s_X4_moebius (by decide) kX4_moebius_ok (by decide +kernel) (by decide +kernel) (Or.inr (Or.inl ⟨rfl, rfl⟩)) rfl (mm_eok_X4 _) (mm_calls_nil)
def gcU (m : Nat) : List Int → List Int → List Int
  | A, [] => A
  | A, x :: t => gcU m (A ++ [x + A.getD (A.length - m) 0]) t
def gcD (m : Nat) (L : List Int) : List Int := (List.range L.length).map (fun i => L.getD i 0 - (if i < m then 0 else L.getD (i - m) 0))
def gcS (f m : Nat) (L : List Int) : List Int := if fN f % m = 0 then (if mbX (fN f / m) = 1 then gcD m L else if mbX (fN f / m) = -1 then gcU m (L.take m) (L.drop m) else L) else L
def gcN (f : Nat) : Nat → Nat → List Int → List Int
  | 0, _, L => L
  | n + 1, m, L => gcN f n (m + 1) (gcS f m L)
theorem gc_c : fevery (fun f => decide (gcN f (fN f) 1 (1 :: List.replicate (fD f) 0) = (List.range (fD f + 1)).map (fphi f))) = true := by decide +kernel
theorem phi_c : fevery (fun f => (List.range (fD f)).all (fun i => decide (-100 ≤ fphi f i ∧ fphi f i ≤ 100))) = true := by decide +kernel
theorem gcU_len (m : Nat) : ∀ (B A : List Int), (gcU m A B).length = A.length + B.length
  | [], A => rfl
  | x :: t, A => by
    unfold gcU
    rw [gcU_len m t]
    simp only [List.length_append, List.length_cons, List.length_nil]
    omega
theorem gcD_len (m : Nat) (L : List Int) : (gcD m L).length = L.length := by simp [gcD]
theorem gcS_len (f m : Nat) (L : List Int) : (gcS f m L).length = L.length := by
  unfold gcS
  split
  · split
    · exact gcD_len m L
    · split
      · rw [gcU_len, List.length_take, List.length_drop]; omega
      · rfl
  · rfl
def GM (d : Nat) (L : List Int) (G : Int → Int64) : Prop := ∀ i : Nat, i ≤ d → G (i : Int) = Int64.ofInt (L.getD i 0)
theorem gcD_get {m i : Nat} {L : List Int} (h : i < L.length) : (gcD m L).getD i 0 = L.getD i 0 - (if i < m then 0 else L.getD (i - m) 0) := by
  unfold gcD
  rw [List.getD_eq_getElem?_getD, List.getElem?_map, List.getElem?_range h]
  rfl
theorem getD_app_l {A B : List Int} {i : Nat} (h : i < A.length) : (A ++ B).getD i 0 = A.getD i 0 := by
  rw [List.getD_eq_getElem?_getD, List.getD_eq_getElem?_getD, List.getElem?_append_left h]
theorem getD_app_r {A B : List Int} {i : Nat} (h : A.length ≤ i) : (A ++ B).getD i 0 = B.getD (i - A.length) 0 := by
  rw [List.getD_eq_getElem?_getD, List.getD_eq_getElem?_getD, List.getElem?_append_right h]
def T_X4_gatherCyclotomic : Tr := fun av h N _ => ∃ (w : CW) (c : CS) (f : Nat), av = [mR 10] ∧ h = hC w c ∧ f < 15 ∧ c.1 6 = (fN f : Nat) ∧ c.1 7 = (fD f : Nat) ∧ ∀ G : Int → Int64, (∀ i : Nat, i ≤ fD f → G (i : Int) = ph f i) → N none (hC w (kL c 12 G))
abbrev e_X4_gatherCyclotomic : NE := (ftX4, [(51, (1, 0, 0, false, (0, 4), T_X4_clear)), (87, (1, 0, 0, false, (1, 0), T_X4_moebius))], ltX4, [], [], false, 0, (0, 0), [], [], [], true)
set_option maxHeartbeats 8000000 in
theorem s_X4_gatherCyclotomic : mm_Spec e_X4_gatherCyclotomic kX4_gatherCyclotomic 4 T_X4_gatherCyclotomic := by
  rintro N X K av h hK ⟨w, c, f, rfl, rfl, hf, h6, h7, h2⟩
  have hb := halfb hf
  have hd220 : fD f ≤ 220 := (fbase hf).2.2.2.2.2.2.2.2.2.2.1
  have hn : ∀ G : Int → Int64, (kL c 12 G).1 6 = (fN f : Int) := fun _ => h6
  have hd : ∀ G : Int → Int64, (kL c 12 G).1 7 = (fD f : Int) := fun _ => h7
  have main : ∀ (n m : Nat) (L : List Int) (G : Int → Int64) (o2 o3 : Option MV), m + n = fN f + 1 → 1 ≤ m → L.length = fD f + 1 → GM (fD f) L G → gcN f n m L = (List.range (fD f + 1)).map (fphi f) → K 13 [some (mR 10), some (mI m), o2, o3] [] (hC w (kL c 12 G)) 0 0 := by
    intro n
    induction n with
    | zero =>
      intro m L G o2 o3 hm hm1 hL hG he
      have he : L = (List.range (fD f + 1)).map (fphi f) := he
      refine hK [] _ _ _ _ _ _ ?_
      conv => whnf
      rw [hn]
      refine And.intro (fun _ => ?_) (fun q => absurd q (by omega))
      refine h2 G (fun i hi => ?_)
      rw [hG i hi, he, List.getD_eq_getElem?_getD, List.getElem?_map, List.getElem?_range (by omega)]
      rfl
    | succ n ih =>
      intro m L G o2 o3 hm hm1 hL hG he
      have he : gcN f n (m + 1) (gcS f m L) = (List.range (fD f + 1)).map (fphi f) := he
      have hgl := gcS_len f m L
      -- behind the step
      have next : ∀ (G2 : Int → Int64) (o2 o3 : Option MV), GM (fD f) (gcS f m L) G2 → K 123 [some (mR 10), some (mI m), o2, o3] [] (hC w (kL c 12 G2)) 0 0 := by
        intro G2 o2 o3 hG2
        refine hK [13] _ _ _ _ _ _ ?_
        refine And.intro (rng_of (by omega) (by omega)) ?_
        exact ih (m + 1) (gcS f m L) G2 _ _ (by omega) (by omega) (by omega) hG2 he
      -- the exponent is known
      have exq : ∀ e : Int, (e = 1 → gcS f m L = gcD m L) → (e = -1 → gcS f m L = gcU m (L.take m) (L.drop m)) → (¬ e = 1 → ¬ e = -1 → gcS f m L = L) → K 43 [some (mR 10), some (mI m), o2, o3] [mI e] (hC w (kL c 12 G)) 0 0 := by
        intro e e1 e2 e3
        refine hK [123, 54, 92] _ _ _ _ _ _ ?_
        refine And.intro (fun q => ?_) (fun q => ?_)
        · refine And.intro (fun q2 => ?_) (fun q2 => ?_)
          · refine next G _ _ ?_
            rw [e3 q q2]
            exact hG
          · -- up
            have hS := e2 q2
            have up : ∀ (B A : List Int) (G2 : Int → Int64), A.length + B.length = fD f + 1 → m ≤ A.length → GM (fD f) (A ++ B) G2 → gcU m A B = gcS f m L → K 92 [some (mR 10), some (mI m), some (mI e), some (mI (A.length : Nat))] [] (hC w (kL c 12 G2)) 0 0 := by
              intro B
              induction B with
              | nil =>
                intro A G2 hl hmA hG2 hr
                have hr : A = gcS f m L := hr
                rw [List.append_nil, hr] at hG2
                simp only [List.length_nil] at hl
                refine hK [123] _ _ _ _ _ _ ?_
                conv => whnf
                rw [hd]
                refine And.intro (fun _ => ?_) (fun q => absurd q (by omega))
                exact next G2 _ _ hG2
              | cons x t ihB =>
                intro A G2 hl hmA hG2 hr
                have hr : gcU m (A ++ [x + A.getD (A.length - m) 0]) t = gcS f m L := hr
                simp only [List.length_cons] at hl
                have ga : G2 ((A.length : Nat) : Int) = Int64.ofInt x := by rw [hG2 _ (by omega), getD_app_r (Nat.le_refl _), Nat.sub_self]; rfl
                have gb : G2 ((A.length - m : Nat) : Int) = Int64.ofInt (A.getD (A.length - m) 0) := by rw [hG2 _ (by omega), getD_app_l (by omega)]
                refine hK [92] _ _ _ _ _ _ ?_
                conv => whnf
                rw [hd]
                refine And.intro (fun q => absurd q (by omega)) (fun _ => ?_)
                refine And.intro (by omega) ?_
                conv => whnf
                rw [show ((A.length : Nat) : Int) - (m : Int) = ((A.length - m : Nat) : Int) by omega]
                refine And.intro (rng_nat (by omega)) ?_
                refine And.intro (by omega) ?_
                refine And.intro (by omega) ?_
                refine And.intro (rng_of (by omega) (by omega)) ?_
                have h3 := ihB (A ++ [x + A.getD (A.length - m) 0]) (mm_updL G2 ((A.length : Nat) : Int) (G2 ((A.length : Nat) : Int) + G2 ((A.length - m : Nat) : Int))) (by simp only [List.length_append, List.length_cons, List.length_nil]; omega) (by simp only [List.length_append, List.length_cons, List.length_nil]; omega) (fun i hi => by
                  unfold mm_updL
                  rw [List.append_assoc]
                  by_cases q4 : i = A.length
                  · rw [if_pos (by omega), q4, getD_app_r (Nat.le_refl _), Nat.sub_self, ga, gb, ← Int64.ofInt_add]
                    rfl
                  · rw [if_neg (by omega), hG2 i hi]
                    by_cases q5 : i < A.length
                    · rw [getD_app_l q5, getD_app_l q5]
                    · rw [getD_app_r (by omega), getD_app_r (by omega), show i - A.length = (i - A.length - 1) + 1 by omega]
                      rfl) hr
                rw [show ((A ++ [x + A.getD (A.length - m) 0]).length : Int) = (A.length : Int) + 1 by simp only [List.length_append, List.length_cons, List.length_nil]; omega] at h3
                exact h3
            by_cases hmd : m ≤ fD f + 1
            · have h3 := up (L.drop m) (L.take m) G (by rw [List.length_take, List.length_drop]; omega) (by rw [List.length_take]; omega) (by rw [List.take_append_drop]; exact hG) hS.symm
              rw [List.length_take, show min m L.length = m by omega] at h3
              exact h3
            · have h3 : K 92 [some (mR 10), some (mI m), some (mI e), some (mI (m : Nat))] [] (hC w (kL c 12 G)) 0 0 := by
                refine hK [123] _ _ _ _ _ _ ?_
                conv => whnf
                rw [hd]
                refine And.intro (fun _ => ?_) (fun q => absurd q (by omega))
                refine next G _ _ ?_
                rw [hS, List.drop_eq_nil_of_le (by omega), List.take_of_length_le (by omega)]
                exact hG
              exact h3
        · -- down
          have hS := e1 q
          have down : ∀ (k : Nat) (G2 : Int → Int64) (i : Int), i = (k : Int) - 1 → k ≤ fD f + 1 → m ≤ k ∨ k = fD f + 1 → (∀ j : Nat, j ≤ fD f → G2 (j : Int) = if j < k then Int64.ofInt (L.getD j 0) else Int64.ofInt ((gcD m L).getD j 0)) → K 54 [some (mR 10), some (mI m), some (mI e), some (mI i)] [] (hC w (kL c 12 G2)) 0 0 := by
            intro k
            induction k with
            | zero =>
              intro G2 i hi hk hmk hG2
              omega
            | succ k ihk =>
              intro G2 i hi hk hmk hG2
              have hi : i = (k : Int) := by omega
              subst hi
              by_cases hkm : m ≤ k
              · have ga : G2 (k : Int) = Int64.ofInt (L.getD k 0) := by rw [hG2 k (by omega), if_pos (by omega)]
                have gb : G2 ((k - m : Nat) : Int) = Int64.ofInt (L.getD (k - m) 0) := by rw [hG2 _ (by omega), if_pos (by omega)]
                refine hK [54] _ _ _ _ _ _ ?_
                refine And.intro (fun q => absurd q (by omega)) (fun _ => ?_)
                refine And.intro (by omega) ?_
                conv => whnf
                rw [show (k : Int) - (m : Int) = ((k - m : Nat) : Int) by omega]
                refine And.intro (rng_nat (by omega)) ?_
                refine And.intro (by omega) ?_
                refine And.intro (by omega) ?_
                refine And.intro (rng_of (by omega) (by omega)) ?_
                refine ihk (mm_updL G2 (k : Int) (G2 (k : Int) - G2 ((k - m : Nat) : Int))) _ rfl (by omega) (Or.inl hkm) (fun j hj => ?_)
                unfold mm_updL
                by_cases q4 : j = k
                · rw [if_pos (by omega), if_neg (by omega), q4, gcD_get (by omega), if_neg (by omega), ga, gb, ← Int64.ofInt_sub]
                · rw [if_neg (by omega), hG2 j hj]
                  by_cases q5 : j < k
                  · rw [if_pos (by omega), if_pos q5]
                  · rw [if_neg (by omega), if_neg q5]
              · refine hK [123] _ _ _ _ _ _ ?_
                refine And.intro (fun _ => ?_) (fun q => absurd q (by omega))
                refine next G2 _ _ (fun j hj => ?_)
                rw [hS, hG2 j hj]
                by_cases q5 : j < k + 1
                · rw [if_pos q5, gcD_get (by omega), if_pos (by omega)]
                  simp
                · rw [if_neg q5]
          conv => whnf
          rw [hd]
          exact down (fD f + 1) G _ (by omega) (Nat.le_refl _) (Or.inr rfl) (fun j hj => by rw [hG j hj, if_pos (by omega)])
      refine hK [43] _ _ _ _ _ _ ?_
      conv => whnf
      rw [hn]
      refine And.intro (fun q => absurd q (by omega)) (fun _ => ?_)
      conv => whnf
      rw [hn]
      refine And.intro (dv_ok (by omega) (by omega)) ?_
      rw [tmn]
      refine And.intro (fun q => ?_) (fun q => ?_)
      · refine exq 0 (fun z => absurd z (by omega)) (fun z => absurd z (by omega)) (fun _ _ => ?_)
        unfold gcS
        rw [if_neg (by omega)]
      · have hdm : fN f / m * m = fN f := Nat.div_mul_cancel (Nat.dvd_of_mod_eq_zero (by omega))
        have hpos : 1 ≤ fN f / m := by
          rcases Nat.eq_zero_or_pos (fN f / m) with z | z
          · rw [z] at hdm; omega
          · exact z
        have hle := Nat.div_le_self (fN f) m
        conv => whnf
        rw [hn]
        refine And.intro (dv_ok (by omega) (by omega)) ?_
        rw [tdn]
        refine ⟨fN f / m, rfl, hpos, by omega, ?_⟩
        refine exq _ (fun z => ?_) (fun z => ?_) (fun z1 z2 => ?_)
        · unfold gcS
          rw [if_pos (by omega), if_pos z]
        · unfold gcS
          rw [if_pos (by omega), if_neg (by omega), if_pos z]
        · unfold gcS
          rw [if_pos (by omega), if_neg z1, if_neg z2]
  refine ⟨rfl, hK [13] _ _ _ _ _ _ ?_⟩
  refine ⟨w, c, rfl, rfl, fun G hg => ?_⟩
  refine And.intro (by omega) ?_
  refine main (fN f) 1 (1 :: List.replicate (fD f) 0) (mm_updL G 0 1) _ _ (by omega) (by omega) (by simp) (fun i hi => ?_) (of_decide_eq_true (fevery_at gc_c hf))
  unfold mm_updL
  cases i with
  | zero => exact if_pos rfl
  | succ i =>
    rw [if_neg (by omega), hg, if_pos (by omega), List.getD_eq_getElem?_getD, List.getElem?_cons_succ, List.getElem?_replicate, if_pos (by omega)]
    rfl
theorem m_X4_gatherCyclotomic (l : Launch) : mm_Met l yX4_gatherCyclotomic cX4_gatherCyclotomic 4 none 2 0 0 T_X4_gatherCyclotomic := mm_met (E := e_X4_gatherCyclotomic) (cd := kX4_gatherCyclotomic) s_X4_gatherCyclotomic (by decide) kX4_gatherCyclotomic_ok (by decide +kernel) (by decide +kernel) (Or.inl ⟨rfl, rfl⟩) rfl (mm_eok_X4 _) (mm_calls_cons (mm_cbv wi_X4_clear (tb2 (i := 130) rfl rfl) (m_X4_clear l) (by decide) (by decide) rfl) (mm_calls_cons (mm_cbs wi_X4_moebius (tb2 (i := 137) rfl rfl) (m_X4_moebius l) (by decide) (by decide) rfl) (mm_calls_nil)))
def pL2 (f i : Nat) : List Nat := (List.range i).filter (fun j => !(decide (fphi f j = 0)))
theorem pL2_s (f i : Nat) : pL2 f (i + 1) = pL2 f i ++ (if fphi f i = 0 then [] else [i]) := by
  unfold pL2
  rw [List.range_succ, List.filter_append]
  by_cases q : fphi f i = 0
  · rw [if_pos q]
    simp [q]
  · rw [if_neg q]
    simp [q]
theorem pL2_len (f i : Nat) : (pL2 f i).length ≤ i := by
  have := List.length_filter_le (fun j => !(decide (fphi f j = 0))) (List.range i)
  rw [List.length_range] at this
  exact this
def T_X4_keepTerms : Tr := fun av h N _ => ∃ (w : CW) (c : CS) (f : Nat), av = [mR 10] ∧ h = hC w c ∧ f < 15 ∧ c.1 7 = (fD f : Nat) ∧ (∀ i : Nat, i ≤ fD f → c.2.2.1 12 (i : Int) = ph f i) ∧ ∀ A B : Int → Int, (∀ i : Nat, i < (tL f).length → A (i : Int) = ((tL f).getD i 0 : Nat) ∧ B (i : Int) = fphi f ((tL f).getD i 0)) → N none (hC w (kI (kA (kA c 13 A) 14 B) 9 ((tL f).length : Nat)))
abbrev e_X4_keepTerms : NE := (ftX4, [], ltX4, [], [], false, 0, (0, 0), [], [], [], true)
set_option maxHeartbeats 4000000 in
theorem s_X4_keepTerms : mm_Spec e_X4_keepTerms kX4_keepTerms 2 T_X4_keepTerms := by
  rintro N X K av h hK ⟨w, c, f, rfl, rfl, hf, h7, hg, h2⟩
  have hd220 : fD f ≤ 220 := (fbase hf).2.2.2.2.2.2.2.2.2.2.1
  have hd : ∀ (A B : Int → Int) (v : Int), (kI (kA (kA c 13 A) 14 B) 9 v).1 7 = (fD f : Int) := fun _ _ _ => h7
  have loop : ∀ i : Nat, i ≤ fD f → ∀ (A B : Int → Int) (v : Int), v = ((pL2 f i).length : Nat) → (∀ j : Nat, j < (pL2 f i).length → A (j : Int) = ((pL2 f i).getD j 0 : Nat) ∧ B (j : Int) = fphi f ((pL2 f i).getD j 0)) → K 7 [some (mR 10), some (mI i)] [] (hC w (kI (kA (kA c 13 A) 14 B) 9 v)) 0 0 := by
    refine mm_for (fD f) (fun A B v hv hA => ?_) (fun i hi ih A B v hv hA => ?_)
    · subst hv
      refine hK [] _ _ _ _ _ _ ?_
      conv => whnf
      rw [hd]
      refine And.intro (fun _ => ?_) (fun q => absurd q (by omega))
      exact h2 A B hA
    · subst hv
      have hpl := pL2_len f i
      have hs := pL2_s f i
      have hpr := of_decide_eq_true (List.all_eq_true.mp (fevery_at phi_c hf) i (List.mem_range.mpr hi))
      have hgi : ∀ (A B : Int → Int) (v : Int), (kI (kA (kA c 13 A) 14 B) 9 v).2.2.1 12 (i : Int) = ph f i := fun _ _ _ => hg i (by omega)
      have hti : (ph f i).toInt = fphi f i := l_of (rng_of (by omega) (by omega))
      have ce := cmp_eq (ph f i) 0
      have ph0 : ph f i = 0 ↔ fphi f i = 0 := by
        constructor
        · intro z
          rw [← hti, z]
          rfl
        · intro z
          unfold ph
          rw [z]
          rfl
      refine hK [7] _ _ _ _ _ _ ?_
      conv => whnf
      rw [hd]
      refine And.intro (fun q => absurd q (by omega)) (fun _ => ?_)
      refine And.intro (by omega) ?_
      conv => whnf
      rw [hgi]
      refine And.intro (fun q => ?_) (fun q => ?_)
      · have q := ph0.mp (ce.mp q)
        rw [if_pos q, List.append_nil] at hs
        refine And.intro (rng_of (by omega) (by omega)) ?_
        exact ih A B _ (by rw [hs]) (by rw [hs]; exact hA)
      · have q : ¬ fphi f i = 0 := fun z => q (ce.mpr (ph0.mpr z))
        rw [if_neg q] at hs
        conv => whnf
        rw [show (kI (kA (kA c 13 A) 14 B) 9 ((pL2 f i).length : Nat)).1 9 = ((pL2 f i).length : Int) from rfl]
        refine And.intro (by omega) ?_
        conv => whnf
        rw [show (kI (kA (kA c 13 A) 14 B) 9 ((pL2 f i).length : Nat)).1 9 = ((pL2 f i).length : Int) from rfl]
        refine And.intro (by omega) ?_
        conv => whnf
        rw [hgi, hti]
        refine And.intro (rng_of (by omega) (by omega)) ?_
        refine And.intro (by omega) ?_
        conv => whnf
        rw [show (kI (kA (kA c 13 A) 14 B) 9 ((pL2 f i).length : Nat)).1 9 = ((pL2 f i).length : Int) from rfl]
        refine And.intro (rng_of (by omega) (by omega)) ?_
        refine And.intro (rng_of (by omega) (by omega)) ?_
        refine ih (mm_upd A ((pL2 f i).length : Int) (i : Int)) (mm_upd B ((pL2 f i).length : Int) (fphi f i)) (((pL2 f i).length : Int) + 1) (by rw [hs]; simp) (fun j hj => ?_)
        rw [hs] at hj ⊢
        simp only [List.length_append, List.length_cons, List.length_nil] at hj
        unfold mm_upd
        by_cases e : j = (pL2 f i).length
        · rw [if_pos (by omega), if_pos (by omega), e, List.getD_eq_getElem?_getD, List.getElem?_append_right (Nat.le_refl _), Nat.sub_self]
          exact ⟨rfl, rfl⟩
        · rw [if_neg (by omega), if_neg (by omega), List.getD_eq_getElem?_getD, List.getElem?_append_left (by omega), ← List.getD_eq_getElem?_getD]
          exact hA j (by omega)
  refine ⟨rfl, hK [7] _ _ _ _ _ _ ?_⟩
  exact loop 0 (by omega) (c.2.1 13) (c.2.1 14) 0 rfl (fun j hj => absurd hj (by show ¬ j < 0; omega))
theorem m_X4_keepTerms (l : Launch) : mm_Met l yX4_keepTerms cX4_keepTerms 2 none 0 0 0 T_X4_keepTerms := mm_met (E := e_X4_keepTerms) (cd := kX4_keepTerms) s_X4_keepTerms (by decide) kX4_keepTerms_ok (by decide +kernel) (by decide +kernel) (Or.inl ⟨rfl, rfl⟩) rfl (mm_eok_X4 _) (mm_calls_nil)
def T_X4_become : Tr := fun av h N _ => ∃ (w : CW) (c : CS) (f : Nat), av = [mR 10, mI (fN f : Nat)] ∧ h = hC w c ∧ f < 15 ∧ ∀ c' : CS, FC [6, 7, 8, 9] [11, 13, 14] [12] c c' → CG f c' → N none (hC w c')
abbrev e_X4_become : NE := (ftX4, [(33, (1, 0, 0, false, (0, 4), T_X4_findMovings)), (36, (1, 0, 0, false, (0, 4), T_X4_gatherCyclotomic)), (39, (1, 0, 0, false, (0, 4), T_X4_keepTerms))], ltX4, [], [], false, 0, (0, 0), [], [], [], true)
theorem s_X4_become : mm_Spec e_X4_become kX4_become 2 T_X4_become := by
  rintro N X K av h hK ⟨w, c, f, rfl, rfl, hf, h2⟩
  have hb := halfb hf
  refine ⟨rfl, hK [] _ _ _ _ _ _ ?_⟩
  refine And.intro (dv_ok (a := fN f) (b := 2) (by omega) (by omega)) ?_
  conv => whnf
  rw [show ((fN f : Nat) : Int).tdiv 2 = ((fN f / 2 : Nat) : Int) from tdn (fN f) 2]
  refine ⟨w, kI (kI c 6 (fN f : Nat)) 8 (fN f / 2 : Nat), f, rfl, rfl, hf, rfl, fun A hA => ?_⟩
  refine ⟨w, kI (kA (kI (kI c 6 (fN f : Nat)) 8 (fN f / 2 : Nat)) 11 A) 7 (fD f : Nat), f, rfl, rfl, hf, rfl, rfl, fun G hg => ?_⟩
  refine ⟨w, kL (kI (kA (kI (kI c 6 (fN f : Nat)) 8 (fN f / 2 : Nat)) 11 A) 7 (fD f : Nat)) 12 G, f, rfl, rfl, hf, rfl, hg, fun B C hBC => ?_⟩
  refine h2 _ ?_ ⟨hf, rfl, rfl, rfl, hA, rfl, hBC⟩
  exact FC_I (FC_A (FC_A (FC_L (FC_I (FC_A (FC_I (FC_I (FC_rf c) rfl) rfl) rfl) rfl) rfl) rfl) rfl) rfl
theorem m_X4_become (l : Launch) : mm_Met l yX4_become cX4_become 2 none 3 0 0 T_X4_become := mm_met (E := e_X4_become) (cd := kX4_become) s_X4_become (by decide) kX4_become_ok (by decide +kernel) (by decide +kernel) (Or.inl ⟨rfl, rfl⟩) rfl (mm_eok_X4 _) (mm_calls_cons (mm_cbv wi_X4_findMovings (tb2 (i := 122) rfl rfl) (m_X4_findMovings l) (by decide) (by decide) rfl) (mm_calls_cons (mm_cbv wi_X4_gatherCyclotomic (tb2 (i := 126) rfl rfl) (m_X4_gatherCyclotomic l) (by decide) (by decide) rfl) (mm_calls_cons (mm_cbv wi_X4_keepTerms (tb2 (i := 140) rfl rfl) (m_X4_keepTerms l) (by decide) (by decide) rfl) (mm_calls_nil))))
