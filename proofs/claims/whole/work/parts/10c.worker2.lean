/-! the component's worker: powers, new values, all steps -/
def T_X8_raise : Tr := fun av h N _ => ∃ (w : CW) (c : CS) (f m : Nat) (V : VL) (L : List VL), av = [mR 31, mI m] ∧ h = hC w c ∧ w.1 = none ∧ CG f c ∧ m ≤ 20 ∧ c.1 22 = ((L.length + 1 : Nat) : Int) ∧ L.length ≤ 14 ∧ WSt f c (V :: L) ∧ small f V ∧ ∀ c' : CS, FKw c c' → c'.1 22 = ((L.length + 1 : Nat) : Int) → (∀ L', pwE f V m L = some L' → WSt f c' L') → N (some (mI (ind (pwE f V m L).isSome : Nat))) (hC w c')
abbrev e_X8_raise : NE := (ftX8, [(93, (3, 0, 0, false, (0, 8), T_X8_gatherRoot)), (96, (2, 0, 0, false, (0, 4), T_X4_take)), (118, (5, 0, 0, false, (1, 0), T_arraycopy)), (112, (3, 0, 0, false, (0, 4), T_X4_multiply))], ltX8, [], [], false, 2, (0, 0), [], [], [], true)
set_option maxHeartbeats 8000000 in
theorem s_X8_raise : mm_Spec e_X8_raise kX8_raise 5 T_X8_raise := by
  rintro N X K av h hK ⟨w, c, f, m, V, L, rfl, rfl, hw, hG, hm, h22, hL, hW, hsV, h2⟩
  have hb := halfb hG.1
  have hd220 : fD f ≤ 220 := (fbase hG.1).2.2.2.2.2.2.2.2.2.2.1
  have loop : ∀ (k i : Nat) (P : VL) (c1 : CS), i + k = m + 1 → 2 ≤ i → FKw c c1 → c1.1 22 = ((L.length + 1 : Nat) : Int) → WSt f c1 (P :: L) → (∀ t, t < fD f → rowV c1 (8 + (L.length + 1)) t = V t) → pwV f V k P L = pwE f V m L → K 77 [some (mR 31), some (mI m), some (mQ (8 + L.length)), some (mQ (8 + (L.length + 1))), some (mI i)] [] (hC w c1) 0 0 := by
    intro k
    induction k with
    | zero =>
      intro i P c1 hi hi2 hF h221 hW1 hB he
      have he : some (P :: L) = pwE f V m L := he
      rw [← he] at h2
      refine hK [] _ _ _ _ _ _ ?_
      refine And.intro (fun _ => ?_) (fun q => absurd q (by omega))
      refine And.intro (Or.inr rfl) ?_
      exact h2 c1 hF h221 (fun L' hL' => by cases hL'; exact hW1)
    | succ k ih =>
      intro i P c1 hi hi2 hF h221 hW1 hB he
      have hG1 := CG_w hG hF
      have he : (if small f (mulV f P V) then pwV f V k (mulV f P V) L else none) = pwE f V m L := he
      refine hK [77] _ _ _ _ _ _ ?_
      refine And.intro (fun q => absurd q (by omega)) (fun _ => ?_)
      refine ⟨w, c1, f, 8 + L.length, 8 + (L.length + 1), rfl, rfl, hG1, by omega, by omega, fun G hg => ?_⟩
      refine ⟨w, kL c1 12 G, f, 8 + L.length, rfl, rfl, hG1, by omega, fun G3 b hg3 hb1 hb2 => ?_⟩
      have hV : ∀ t, t < fD f → gV f ((kL c1 12 G).2.2.1 12) t = mulV f P V t := fun t ht => by
        rw [kL_at, hg t ht]
        exact mulV_congr (WSt_row hW1) hB t
      rw [show bi (small f (gV f ((kL c1 12 G).2.2.1 12))) = bi (small f (mulV f P V)) from small_congr hV]
      obtain ⟨t1, t2⟩ := takeW (c := c1) (G := G3) (b := b) (W := mulV f P V) (FKw_L c1 G) (WSt_low (c := c1) (fun _ _ => rfl) hW1.2) hV hb1
      have t1' := FKw_tr hF t1
      refine And.intro (fun q => ?_) (fun q => ?_)
      · have q := bi_c1 q
        rw [if_pos q] at he
        refine And.intro (rng_of (by omega) (by omega)) ?_
        refine ih (i + 1) (mulV f P V) _ (by omega) (by omega) t1' h221 (t2 q) (fun t ht => ?_) he
        rw [← hB t ht]
        show Int64.ofInt (mm_updR c1.2.2.2.1 (8 + L.length) b (8 + (L.length + 1)) (t : Int)) = _
        rw [updR_ne (by omega)]
        rfl
      · have q := bi_c0 q
        rw [if_neg q] at he
        rw [← he] at h2
        refine And.intro (Or.inl rfl) ?_
        exact h2 _ t1' h221 (fun L' hL' => by cases hL')
  refine ⟨rfl, hK [77] _ _ _ _ _ _ ?_⟩
  conv => whnf
  rw [h22]
  refine And.intro (fun q => absurd q (by omega)) (fun _ => ?_)
  conv => whnf
  rw [h22]
  refine And.intro (fun _ => ?_) (fun q => absurd q (by omega))
  conv => whnf
  rw [h22, show ((L.length + 1 : Nat) : Int) - 1 = (L.length : Int) by omega]
  refine And.intro (rng_of (by omega) (by omega)) ?_
  refine And.intro (by omega) ?_
  refine And.intro (fun q => ?_) (fun q => ?_)
  · have e : pwE f V m L = pwV f V (m - 1) V L := by
      unfold pwE
      rw [if_neg (by omega)]
    conv => whnf
    rw [h22]
    refine And.intro (by omega) ?_
    conv => whnf
    rw [hG.2.2.1]
    refine ⟨8 + L.length, 8 + (L.length + 1), fD f, rfl, hw, hd220, by show 8 + L.length < 24; omega, by show 8 + (L.length + 1) < 24; omega, ?_⟩
    refine loop (m - 1) 2 V (kR c (mm_updR c.2.2.2.1 (8 + (L.length + 1)) (fun j => if 0 ≤ j ∧ j < (fD f : Int) then c.2.2.2.1 (8 + L.length) j else c.2.2.2.1 (8 + (L.length + 1)) j))) (by omega) (by omega) (FKw_R c _ (by omega)) h22 (WSt_low (c := c) (fun r hr => updR_ne (by simp only [List.length_cons] at hr; omega)) hW) (fun t ht => ?_) e.symm
    rw [← WSt_row hW t ht]
    show Int64.ofInt (mm_updR c.2.2.2.1 (8 + (L.length + 1)) _ (8 + (L.length + 1)) (t : Int)) = Int64.ofInt (c.2.2.2.1 (8 + L.length) (t : Int))
    rw [updR_at, if_pos (by omega)]
  · have hm0 : m = 0 := by omega
    refine ⟨w, c, f, 0, 1, rfl, rfl, hG, by omega, fun G hg => ?_⟩
    refine ⟨w, kL c 12 G, f, 8 + L.length, rfl, rfl, hG, by omega, fun G3 b hg3 hb1 hb2 => ?_⟩
    have hV : ∀ t, t < fD f → gV f ((kL c 12 G).2.2.1 12) t = (if t = 0 then 1 else 0) := fun t ht => by
      rw [kL_at, hg t ht, rho_low hG.1 (by omega) ht, show Int64.ofInt 1 = 1 from rfl]
      split <;> simp
    have e : pwE f V m L = tst f (fun t => if t = 0 then 1 else 0) L := by
      unfold pwE
      rw [if_pos hm0]
    rw [e] at h2
    rw [show bi (small f (gV f ((kL c 12 G).2.2.1 12))) = bi (small f (fun t => if t = 0 then 1 else 0)) from small_congr hV]
    obtain ⟨t1, t2⟩ := takeW (c := c) (G := G3) (b := b) (W := fun t => if t = 0 then 1 else 0) (FKw_L c G) (WSt_low (c := c) (fun _ _ => rfl) hW.2) hV hb1
    refine And.intro (bi_01 _) ?_
    have h3 := h2 _ t1 h22 (fun L' hL' => by
      unfold tst at hL'
      split at hL'
      · rename_i q2
        cases hL'
        exact t2 q2
      · cases hL')
    unfold tst at h3
    by_cases q2 : small f (fun t => if t = 0 then 1 else 0)
    · rw [if_pos q2] at h3
      rw [bi_t q2]
      exact h3
    · rw [if_neg q2] at h3
      rw [bi_f q2]
      exact h3
theorem m_X8_raise (l : Launch) : mm_Met l yX8_raise cX8_raise 5 (some .boolean) 3 0 0 T_X8_raise := mm_met3 (E := e_X8_raise) (cd := kX8_raise) s_X8_raise (by decide) kX8_raise_ok (by decide +kernel) (by decide +kernel) (Or.inr (Or.inr (Or.inl ⟨rfl, rfl⟩))) rfl (mm_eok_X8 _) (mm_cq_cons (mm_CQ_of (mm_cbv wi_X8_gatherRoot (tb4 (i := 60) rfl rfl) (m_X8_gatherRoot l) (by decide) (by decide) rfl)) (mm_cq_cons (mm_CQ_of (mm_cbv wi_X4_take (tb4 (i := 34) rfl rfl) (m_X4_take l) (by decide) (by decide) rfl)) (mm_cq_cons (mm_CQ_copy (tb4 (i := 65) rfl rfl) (by omega)) (mm_cq_cons (mm_CQ_of (mm_cbv wi_X4_multiply (tb4 (i := 48) rfl rfl) (m_X4_multiply l) (by decide) (by decide) rfl)) (mm_cq_nil)))))
/-- the component's places -/
def CPl (a : AS) (c : CS) : Prop := ∀ i t : Nat, i < 8 → t < fD (aF a) → c.2.2.2.1 i (t : Int) = aP a i t
theorem CPl_w {a : AS} {c c' : CS} (h : CPl a c) (hF : FKw c c') : CPl a c' := fun i t hi ht => by rw [hF.2.2.2.1 i hi]; exact h i t hi ht
theorem CPl_row {a : AS} {c : CS} {i : Nat} (h : CPl a c) (hi : i < 8) : ∀ t, t < fD (aF a) → rowV c i t = vL (aP a i) t := fun t ht => by
  show Int64.ofInt (c.2.2.2.1 i (t : Int)) = _
  rw [h i t hi ht]
def opAt (c : CS) (i : Nat) (o : OP) : Prop := i < 200 ∧ c.2.1 27 (i : Int) = (o.1 : Nat) ∧ c.2.1 28 (i : Int) = o.2.1 ∧ c.2.1 29 (i : Int) = o.2.2.1 ∧ c.2.1 30 (i : Int) = o.2.2.2
def WQ (w : CW) (c : CS) (a : AS) (o : OP) (L : List VL) (N : Option MV → HP → Prop) : Prop := ∀ c' : CS, FKw c c' → (∀ L', evO a o L = some L' → c'.1 22 = (L'.length : Nat) ∧ WSt (aF a) c' L') → N (some (mI (ind (evO a o L).isSome : Nat))) (hC w c')
theorem WQ_tst {w : CW} {c : CS} {a : AS} {o : OP} {L L0 : List VL} {W : VL} {N : Option MV → HP → Prop} (h : WQ w c a o L N) (e : evO a o L = tst (aF a) W L0) : WP w c (aF a) L0 W N := by
  intro c' hF h22 hW
  have h3 := h c' hF (fun L' hL' => by
    rw [e] at hL'
    unfold tst at hL'
    split at hL'
    · rename_i q2
      cases hL'
      exact ⟨h22, hW q2⟩
    · cases hL')
  rw [e] at h3
  unfold tst at h3
  by_cases q2 : small (aF a) W
  · rw [if_pos q2] at h3
    rw [bi_t q2]
    exact h3
  · rw [if_neg q2] at h3
    rw [bi_f q2]
    exact h3
def T_X8_push : Tr := fun av h N _ => ∃ (w : CW) (c : CS) (a : AS) (i : Nat) (o : OP) (L : List VL), av = [mR 31, mR 26, mI i] ∧ h = hC w c ∧ CFG (aF a) c ∧ AO a ∧ CPl a c ∧ opAt c i o ∧ opok (aF a) o ∧ o.1 ≤ 6 ∧ c.1 22 = (L.length : Nat) ∧ L.length ≤ 14 ∧ WSt (aF a) c L ∧ WQ w c a o L N
abbrev e_X8_push : NE := (ftX8, [(70, (3, 0, 0, false, (0, 6), T_X6_gauss)), (79, (4, 0, 0, false, (0, 6), T_X6_jacobi)), (83, (3, 0, 0, false, (0, 6), T_X6_kloosterman)), (86, (3, 0, 0, false, (0, 6), T_X6_period)), (89, (3, 0, 0, false, (0, 8), T_X8_gather)), (93, (3, 0, 0, false, (0, 8), T_X8_gatherRoot)), (96, (2, 0, 0, false, (0, 4), T_X4_take))], ltX8, [], [], false, 2, (0, 0), [], [], [], true)
set_option maxHeartbeats 16000000 in
theorem s_X8_push : mm_Spec e_X8_push kX8_push 5 T_X8_push := by
  rintro N X K av h hK ⟨w, c, a, i, ⟨k, x, y, z⟩, L, rfl, rfl, hFG, hA, hP, ⟨hi, o1, o2, o3, o4⟩, hok, hk6, h22, hL, hW, h2⟩
  have hb := fbase hFG.1.1.1
  have hfd : ∀ t, t < fD (aF a) → True := fun _ _ => trivial
  have o1 : c.2.1 27 (i : Int) = (k : Int) := o1
  have o2 : c.2.1 28 (i : Int) = x := o2
  have o3 : c.2.1 29 (i : Int) = y := o3
  have o4 : c.2.1 30 (i : Int) = z := o4
  -- behind the gathering
  have fin : ∀ (G : Int → Int64) (W : VL) (m1 m2 : Option MV), (∀ t, t < fD (aF a) → gV (aF a) G t = W t) → evO a (k, x, y, z) L = tst (aF a) W L → K 159 [some (mR 31), some (mR 26), some (mI i), m1, m2] [] (hC w (kL c 12 G)) 0 0 := by
    intro G W m1 m2 hg e
    have h3 := WQ_tst h2 e
    refine hK [] _ _ _ _ _ _ ?_
    conv => whnf
    rw [show (kL c 12 G).1 22 = (L.length : Int) from h22]
    refine And.intro (rng_of (by omega) (by omega)) ?_
    conv => whnf
    rw [show (L.length : Int) + 1 - 1 = (L.length : Int) by omega]
    refine And.intro (rng_of (by omega) (by omega)) ?_
    refine And.intro (by omega) ?_
    have hG1 : CG (aF a) (kI (kL c 12 G) 22 ((L.length : Int) + 1)) := CG_w hFG.2 (FKw_tr (FKw_L c G) (FKw_I _ _))
    refine ⟨w, kI (kL c 12 G) 22 ((L.length : Int) + 1), aF a, 8 + L.length, rfl, rfl, hG1, by omega, fun G3 b hg3 hb1 hb2 => ?_⟩
    have hV : ∀ t, t < fD (aF a) → gV (aF a) ((kI (kL c 12 G) 22 ((L.length : Int) + 1)).2.2.1 12) t = W t := hg
    rw [show bi (small (aF a) (gV (aF a) ((kI (kL c 12 G) 22 ((L.length : Int) + 1)).2.2.1 12))) = bi (small (aF a) W) from small_congr hV]
    obtain ⟨t1, t2⟩ := takeW (c := c) (G := G3) (b := b) (W := W) (FKw_tr (FKw_L c G) (FKw_I _ _)) (WSt_low (c := c) (fun _ _ => rfl) hW) hV hb1
    exact And.intro (bi_01 _) (h3 _ t1 rfl t2)
  refine ⟨rfl, hK [159] _ _ _ _ _ _ ?_⟩
  conv => whnf
  rw [h22]
  refine And.intro (fun _ => ?_) (fun q => absurd q (by omega))
  refine And.intro (by omega) ?_
  refine And.intro (by omega) ?_
  refine And.intro (by omega) ?_
  conv => whnf
  rw [o1, o2, o3]
  refine And.intro (fun q => ?_) (And.intro (fun q => ?_) (And.intro (fun q => ?_) (And.intro (fun q => ?_) (And.intro (fun q => ?_) (And.intro (fun q => ?_) (And.intro (fun q => ?_) trivial))))))
  · -- a number
    have hk0 : k = 0 := by omega
    subst hk0
    have hr : 0 ≤ x ∧ x < 10000 := by
      rcases hok with ⟨-, r⟩ | ⟨r, -⟩ | ⟨r, -⟩ | ⟨r, -⟩ | ⟨r, -⟩ | ⟨r, -⟩ | ⟨r, -⟩ | r | ⟨r, -⟩ | r | r | r | ⟨r, -⟩
      · exact r
      all_goals exact absurd r (by simp)
    refine ⟨w, c, aF a, 0, x, rfl, rfl, hFG.2, by omega, fun G hg => ?_⟩
    refine fin G (fun t => if t = 0 then Int64.ofInt x else 0) _ _ (fun t ht => ?_) rfl
    rw [hg t ht, rho_low hFG.2.1 (by omega) ht]
    split <;> simp
  · -- a root
    have hk0 : k = 1 := by omega
    subst hk0
    have hr : 0 ≤ x ∧ x < (fN (aF a) : Int) := by
      rcases hok with ⟨r, -⟩ | ⟨-, r⟩ | ⟨r, -⟩ | ⟨r, -⟩ | ⟨r, -⟩ | ⟨r, -⟩ | ⟨r, -⟩ | r | ⟨r, -⟩ | r | r | r | ⟨r, -⟩
      · exact absurd r (by simp)
      · exact r
      all_goals exact absurd r (by simp)
    obtain ⟨xn, rfl⟩ := Int.eq_ofNat_of_zero_le hr.1
    refine ⟨w, c, aF a, xn, 1, rfl, rfl, hFG.2, by omega, fun G hg => ?_⟩
    refine fin G (fun t => rho (aF a) xn t) _ _ (fun t ht => ?_) rfl
    rw [hg t ht, show Int64.ofInt 1 = 1 from rfl]
    simp
  · -- Gauss
    have hk0 : k = 2 := by omega
    subst hk0
    have hr : okC (aF a) x ∧ okE (aF a) y := by
      rcases hok with ⟨r, -⟩ | ⟨r, -⟩ | ⟨-, r⟩ | ⟨r, -⟩ | ⟨r, -⟩ | ⟨r, -⟩ | ⟨r, -⟩ | r | ⟨r, -⟩ | r | r | r | ⟨r, -⟩
      · exact absurd r (by simp)
      · exact absurd r (by simp)
      · exact r
      all_goals exact absurd r (by simp)
    obtain ⟨xn, rfl⟩ := Int.eq_ofNat_of_zero_le hr.1.1
    obtain ⟨yn, rfl⟩ := Int.eq_ofNat_of_zero_le hr.2.1
    exact ⟨w, c, aF a, xn, yn, rfl, rfl, hFG, by omega, by omega, fun G hg => fin G _ _ _ hg rfl⟩
  · -- Jacobi
    have hk0 : k = 3 := by omega
    subst hk0
    have hr : okC (aF a) x ∧ okC (aF a) y ∧ okE (aF a) z := by
      rcases hok with ⟨r, -⟩ | ⟨r, -⟩ | ⟨r, -⟩ | ⟨-, r⟩ | ⟨r, -⟩ | ⟨r, -⟩ | ⟨r, -⟩ | r | ⟨r, -⟩ | r | r | r | ⟨r, -⟩
      · exact absurd r (by simp)
      · exact absurd r (by simp)
      · exact absurd r (by simp)
      · exact r
      all_goals exact absurd r (by simp)
    obtain ⟨xn, rfl⟩ := Int.eq_ofNat_of_zero_le hr.1.1
    obtain ⟨yn, rfl⟩ := Int.eq_ofNat_of_zero_le hr.2.1.1
    obtain ⟨zn, rfl⟩ := Int.eq_ofNat_of_zero_le hr.2.2.1
    refine And.intro (by omega) ?_
    conv => whnf
    rw [o4]
    exact ⟨w, c, aF a, xn, yn, zn, rfl, rfl, hFG, by omega, by omega, by omega, fun G hg => fin G _ _ _ hg rfl⟩
  · -- Kloosterman
    have hk0 : k = 4 := by omega
    subst hk0
    have hr : okE (aF a) x ∧ okE (aF a) y := by
      rcases hok with ⟨r, -⟩ | ⟨r, -⟩ | ⟨r, -⟩ | ⟨r, -⟩ | ⟨-, r⟩ | ⟨r, -⟩ | ⟨r, -⟩ | r | ⟨r, -⟩ | r | r | r | ⟨r, -⟩
      · exact absurd r (by simp)
      · exact absurd r (by simp)
      · exact absurd r (by simp)
      · exact absurd r (by simp)
      · exact r
      all_goals exact absurd r (by simp)
    obtain ⟨xn, rfl⟩ := Int.eq_ofNat_of_zero_le hr.1.1
    obtain ⟨yn, rfl⟩ := Int.eq_ofNat_of_zero_le hr.2.1
    exact ⟨w, c, aF a, xn, yn, rfl, rfl, hFG, by omega, by omega, fun G hg => fin G _ _ _ hg rfl⟩
  · -- periods
    have hk0 : k = 5 := by omega
    subst hk0
    have hr : okK (aF a) x y := by
      rcases hok with ⟨r, -⟩ | ⟨r, -⟩ | ⟨r, -⟩ | ⟨r, -⟩ | ⟨r, -⟩ | ⟨-, r⟩ | ⟨r, -⟩ | r | ⟨r, -⟩ | r | r | r | ⟨r, -⟩
      · exact absurd r (by simp)
      · exact absurd r (by simp)
      · exact absurd r (by simp)
      · exact absurd r (by simp)
      · exact absurd r (by simp)
      · exact r
      all_goals exact absurd r (by simp)
    obtain ⟨xn, rfl⟩ := Int.eq_ofNat_of_zero_le (show 0 ≤ x by have := hr.1; omega)
    obtain ⟨yn, rfl⟩ := Int.eq_ofNat_of_zero_le hr.2.2.1
    exact ⟨w, c, aF a, xn, yn, rfl, rfl, hFG, by have := hr.1; omega, fun G hg => fin G _ _ _ hg rfl⟩
  · -- a place
    have hk0 : k = 6 := by omega
    subst hk0
    have hr : okP x := by
      rcases hok with ⟨r, -⟩ | ⟨r, -⟩ | ⟨r, -⟩ | ⟨r, -⟩ | ⟨r, -⟩ | ⟨r, -⟩ | ⟨-, r⟩ | r | ⟨r, -⟩ | r | r | r | ⟨r, -⟩
      · exact absurd r (by simp)
      · exact absurd r (by simp)
      · exact absurd r (by simp)
      · exact absurd r (by simp)
      · exact absurd r (by simp)
      · exact absurd r (by simp)
      · exact r
      all_goals exact absurd r (by simp)
    obtain ⟨xn, rfl⟩ := Int.eq_ofNat_of_zero_le hr.1
    refine And.intro (by omega) ?_
    conv => whnf
    rw [show 0 + ((xn : Nat) : Int).toNat = xn by omega]
    refine ⟨w, c, aF a, xn, 1, rfl, rfl, hFG.2, by omega, fun G hg => ?_⟩
    refine fin G (vL (aP a xn)) _ _ (fun t ht => ?_) ?_
    · rw [hg t ht, CPl_row hP (by omega) t ht, show Int64.ofInt 1 = 1 from rfl]
      simp
    · show some (vL (aP a xn) :: L) = _
      unfold tst
      rw [if_pos (pl_small hA (by omega))]
theorem m_X8_push (l : Launch) : mm_Met l yX8_push cX8_push 5 (some .boolean) 3 0 0 T_X8_push := mm_met (E := e_X8_push) (cd := kX8_push) s_X8_push (by decide) kX8_push_ok (by decide +kernel) (by decide +kernel) (Or.inr (Or.inr (Or.inl ⟨rfl, rfl⟩))) rfl (mm_eok_X8 _) (mm_calls_cons (mm_cbv wi_X6_gauss (tb4 (i := 72) rfl rfl) (m_X6_gauss l) (by decide) (by decide) rfl) (mm_calls_cons (mm_cbv wi_X6_jacobi (tb4 (i := 73) rfl rfl) (m_X6_jacobi l) (by decide) (by decide) rfl) (mm_calls_cons (mm_cbv wi_X6_kloosterman (tb4 (i := 74) rfl rfl) (m_X6_kloosterman l) (by decide) (by decide) rfl) (mm_calls_cons (mm_cbv wi_X6_period (tb4 (i := 75) rfl rfl) (m_X6_period l) (by decide) (by decide) rfl) (mm_calls_cons (mm_cbv wi_X8_gather (tb4 (i := 25) rfl rfl) (m_X8_gather l) (by decide) (by decide) rfl) (mm_calls_cons (mm_cbv wi_X8_gatherRoot (tb4 (i := 60) rfl rfl) (m_X8_gatherRoot l) (by decide) (by decide) rfl) (mm_calls_cons (mm_cbv wi_X4_take (tb4 (i := 34) rfl rfl) (m_X4_take l) (by decide) (by decide) rfl) (mm_calls_nil))))))))
