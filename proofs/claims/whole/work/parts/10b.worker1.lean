/-! the component's worker: values on its stack -/
def FKw (c c' : CS) : Prop := (∀ k, mm_mem k [22] = false → c'.1 k = c.1 k) ∧ c'.2.1 = c.2.1 ∧ (∀ k, mm_mem k [12] = false → c'.2.2.1 k = c.2.2.1 k) ∧ (∀ r, r < 8 → c'.2.2.2.1 r = c.2.2.2.1 r) ∧ c'.2.2.2.2 = c.2.2.2.2
theorem FKw_rf (c : CS) : FKw c c := ⟨fun _ _ => rfl, rfl, fun _ _ => rfl, fun _ _ => rfl, rfl⟩
theorem FKw_tr {c c' c2 : CS} (h : FKw c c') (h2 : FKw c' c2) : FKw c c2 := ⟨fun k hk => (h2.1 k hk).trans (h.1 k hk), h2.2.1.trans h.2.1, fun k hk => (h2.2.2.1 k hk).trans (h.2.2.1 k hk), fun r hr => (h2.2.2.2.1 r hr).trans (h.2.2.2.1 r hr), h2.2.2.2.2.trans h.2.2.2.2⟩
theorem FKw_L (c : CS) (G : Int → Int64) : FKw c (kL c 12 G) := ⟨fun _ _ => rfl, rfl, fun k hk => fu_ne (mm_mem_ne (k := 12) rfl hk), fun _ _ => rfl, rfl⟩
theorem FKw_I (c : CS) (v : Int) : FKw c (kI c 22 v) := ⟨fun k hk => fu_ne (mm_mem_ne (k := 22) rfl hk), rfl, fun _ _ => rfl, fun _ _ => rfl, rfl⟩
theorem FKw_R (c : CS) {r : Nat} (b : Int → Int) (hr : 8 ≤ r) : FKw c (kR c (mm_updR c.2.2.2.1 r b)) := ⟨fun _ _ => rfl, rfl, fun _ _ => rfl, fun i hi => updR_ne (by omega), rfl⟩
theorem CF_w {f : Nat} {c c' : CS} (h : CF f c) (hF : FKw c c') : CF f c' := by
  obtain ⟨⟨h0, h1, h2, h3⟩, hs, hn, hp, hw, ht⟩ := h
  refine ⟨⟨h0, (hF.1 1 rfl).trans h1, (hF.1 2 rfl).trans h2, (hF.1 3 rfl).trans h3⟩, ?_, ?_, ?_, ⟨?_, ?_⟩, ?_⟩
  · unfold CFs; rw [hF.2.1]; exact hs
  · unfold CFn; rw [hF.2.1]; exact hn
  · unfold CFp; rw [hF.2.1]; exact hp
  · rw [hF.2.1]; exact hw.1
  · rw [hF.2.1]; exact hw.2
  · unfold CFt; rw [hF.2.1]; exact ht
theorem CG_w {f : Nat} {c c' : CS} (h : CG f c) (hF : FKw c c') : CG f c' := by
  obtain ⟨h0, h1, h2, h3, h4, h5, h6⟩ := h
  refine ⟨h0, (hF.1 6 rfl).trans h1, (hF.1 7 rfl).trans h2, (hF.1 8 rfl).trans h3, ?_, (hF.1 9 rfl).trans h5, ?_⟩
  · rw [hF.2.1]; exact h4
  · rw [hF.2.1]; exact h6
def WSt (f : Nat) (c : CS) : List VL → Prop
  | [] => True
  | V :: L => (∀ t : Nat, t < fD f → c.2.2.2.1 (8 + L.length) (t : Int) = (V t).toInt) ∧ WSt f c L
theorem WSt_low {f : Nat} {c c' : CS} : ∀ {L : List VL}, (∀ r, r < 8 + L.length → c'.2.2.2.1 r = c.2.2.2.1 r) → WSt f c L → WSt f c' L
  | [], _, _ => trivial
  | V :: L, h, hs => ⟨fun t ht => by rw [h _ (by simp only [List.length_cons]; omega)]; exact hs.1 t ht, WSt_low (fun r hr => h r (by simp only [List.length_cons]; omega)) hs.2⟩
theorem WSt_row {f : Nat} {c : CS} {V : VL} {L : List VL} (h : WSt f c (V :: L)) : ∀ t, t < fD f → rowV c (8 + L.length) t = V t := fun t ht => by
  show Int64.ofInt (c.2.2.2.1 (8 + L.length) (t : Int)) = V t
  rw [h.1 t ht, Int64.ofInt_toInt]
/-- a value has been taken to the place above L -/
theorem takeW {f : Nat} {c c1 : CS} {L : List VL} {W : VL} {G : Int → Int64} {b : Int → Int} (hF : FKw c c1) (hW : WSt f c1 L) (hV : ∀ t, t < fD f → gV f (c1.2.2.1 12) t = W t) (hb : small f (gV f (c1.2.2.1 12)) → ∀ t : Nat, t < fD f → b (t : Int) = (gV f (c1.2.2.1 12) t).toInt) : FKw c (kR (kL c1 12 G) (mm_updR c1.2.2.2.1 (8 + L.length) b)) ∧ (small f W → WSt f (kR (kL c1 12 G) (mm_updR c1.2.2.2.1 (8 + L.length) b)) (W :: L)) := by
  refine ⟨FKw_tr (FKw_tr hF (FKw_L c1 G)) (FKw_R (kL c1 12 G) b (by omega)), fun hs => ⟨fun t ht => ?_, WSt_low (c := c1) (fun r hr => updR_ne (by omega)) hW⟩⟩
  have hs2 : small f (gV f (c1.2.2.1 12)) := fun t ht => by rw [hV t ht]; exact hs t ht
  show mm_updR c1.2.2.2.1 (8 + L.length) b (8 + L.length) (t : Int) = _
  rw [updR_at, hb hs2 t ht, hV t ht]
def T_X8_gather : Tr := fun av h N _ => ∃ (w : CW) (c : CS) (f r : Nat) (x : Int), av = [mR 31, mQ r, mI x] ∧ h = hC w c ∧ CG f c ∧ r < 24 ∧ ∀ G : Int → Int64, (∀ t, t < fD f → gV f G t = rowV c r t * Int64.ofInt x) → N none (hC w (kL c 12 G))
abbrev e_X8_gather : NE := (ftX8, [(100, (1, 0, 0, false, (0, 4), T_X4_clear)), (103, (3, 0, 0, false, (0, 4), T_X4_addValue))], ltX8, [], [], false, 0, (0, 0), [], [], [], true)
theorem s_X8_gather : mm_Spec e_X8_gather kX8_gather 3 T_X8_gather := by
  rintro N X K av h hK ⟨w, c, f, r, x, rfl, rfl, hG, hr, h2⟩
  refine ⟨rfl, hK [] _ _ _ _ _ _ ?_⟩
  refine ⟨w, c, rfl, rfl, fun G hg => ?_⟩
  refine ⟨w, kL c 12 G, f, r, x, rfl, rfl, hG, hr, fun G2 hg2 => ?_⟩
  rw [kL_kL]
  refine h2 G2 (fun t ht => ?_)
  rw [hg2 t ht, kL_at, gV_0 hG.1 (fun i h1 h3 => by rw [hg, if_pos ⟨h1, h3⟩])]
  exact Int64.zero_add _
theorem m_X8_gather (l : Launch) : mm_Met l yX8_gather cX8_gather 3 none 2 0 0 T_X8_gather := mm_met (E := e_X8_gather) (cd := kX8_gather) s_X8_gather (by decide) kX8_gather_ok (by decide +kernel) (by decide +kernel) (Or.inl ⟨rfl, rfl⟩) rfl (mm_eok_X8 _) (mm_calls_cons (mm_cbv wi_X4_clear (tb4 (i := 29) rfl rfl) (m_X4_clear l) (by decide) (by decide) rfl) (mm_calls_cons (mm_cbv wi_X4_addValue (tb4 (i := 30) rfl rfl) (m_X4_addValue l) (by decide) (by decide) rfl) (mm_calls_nil)))
def T_X8_gatherRoot : Tr := fun av h N _ => ∃ (w : CW) (c : CS) (f e : Nat) (x : Int), av = [mR 31, mI x, mI e] ∧ h = hC w c ∧ CG f c ∧ e < fN f ∧ ∀ G : Int → Int64, (∀ t, t < fD f → gV f G t = Int64.ofInt x * rho f e t) → N none (hC w (kL c 12 G))
abbrev e_X8_gatherRoot : NE := (ftX8, [(100, (1, 0, 0, false, (0, 4), T_X4_clear)), (106, (3, 0, 0, false, (0, 4), T_X4_add))], ltX8, [], [], false, 0, (0, 0), [], [], [], true)
theorem s_X8_gatherRoot : mm_Spec e_X8_gatherRoot kX8_gatherRoot 3 T_X8_gatherRoot := by
  rintro N X K av h hK ⟨w, c, f, e, x, rfl, rfl, hG, he, h2⟩
  have hb := halfb hG.1
  refine ⟨rfl, hK [] _ _ _ _ _ _ ?_⟩
  refine ⟨w, c, rfl, rfl, fun G hg => ?_⟩
  refine ⟨w, kL c 12 G, f, Int64.ofInt x, e, rfl, rfl, hG, by omega, fun G2 hg2 => ?_⟩
  rw [kL_kL]
  refine h2 G2 (fun t ht => ?_)
  rw [hg2 t ht, kL_at, gV_0 hG.1 (fun i h1 h3 => by rw [hg, if_pos ⟨h1, h3⟩]), Nat.mod_eq_of_lt he]
  exact Int64.zero_add _
theorem m_X8_gatherRoot (l : Launch) : mm_Met l yX8_gatherRoot cX8_gatherRoot 3 none 2 0 0 T_X8_gatherRoot := mm_met (E := e_X8_gatherRoot) (cd := kX8_gatherRoot) s_X8_gatherRoot (by decide) kX8_gatherRoot_ok (by decide +kernel) (by decide +kernel) (Or.inl ⟨rfl, rfl⟩) rfl (mm_eok_X8 _) (mm_calls_cons (mm_cbv wi_X4_clear (tb4 (i := 29) rfl rfl) (m_X4_clear l) (by decide) (by decide) rfl) (mm_calls_cons (mm_cbv wi_X4_add (tb4 (i := 64) rfl rfl) (m_X4_add l) (by decide) (by decide) rfl) (mm_calls_nil)))
def T_X8_result : Tr := fun av h N _ => ∃ (w : CW) (c : CS), av = [mR 31] ∧ h = hC w c ∧ N (some (mQ 8)) h
abbrev e_X8_result : NE := (ftX8, [], ltX8, [], [], false, 4, (0, 0), [], [], [], true)
theorem s_X8_result : mm_Spec e_X8_result kX8_result 1 T_X8_result := by
  rintro N X K av h hK ⟨w, c, rfl, rfl, h2⟩
  refine ⟨rfl, hK [] _ _ _ _ _ _ ?_⟩
  refine And.intro (by omega) ?_
  exact h2
theorem m_X8_result (l : Launch) : mm_Met l yX8_result cX8_result 1 (some (.array .int)) 0 0 0 T_X8_result := mm_met (E := e_X8_result) (cd := kX8_result) s_X8_result (by decide) kX8_result_ok (by decide +kernel) (by decide +kernel) (Or.inr (Or.inr (Or.inr (Or.inr ⟨rfl, rfl⟩)))) rfl (mm_eok_X8 _) (mm_calls_nil)
/-- what a step on the stack leaves -/
def WP (w : CW) (c : CS) (f : Nat) (L : List VL) (W : VL) (N : Option MV → HP → Prop) : Prop := ∀ c' : CS, FKw c c' → c'.1 22 = ((L.length + 1 : Nat) : Int) → (small f W → WSt f c' (W :: L)) → N (some (mI (bi (small f W)))) (hC w c')
theorem rown {n : Nat} {i : Int} (h : i = (n : Int)) : 8 + i.toNat = 8 + n := by omega
def T_X8_negate : Tr := fun av h N _ => ∃ (w : CW) (c : CS) (f : Nat) (V : VL) (L : List VL), av = [mR 31] ∧ h = hC w c ∧ CG f c ∧ c.1 22 = ((L.length + 1 : Nat) : Int) ∧ L.length ≤ 15 ∧ WSt f c (V :: L) ∧ WP w c f L (fun t => 0 + (-1) * V t) N
abbrev e_X8_negate : NE := (ftX8, [(89, (3, 0, 0, false, (0, 8), T_X8_gather)), (96, (2, 0, 0, false, (0, 4), T_X4_take))], ltX8, [], [], false, 2, (0, 0), [], [], [], true)
theorem s_X8_negate : mm_Spec e_X8_negate kX8_negate 2 T_X8_negate := by
  rintro N X K av h hK ⟨w, c, f, V, L, rfl, rfl, hG, h22, hL, hW, h2⟩
  refine ⟨rfl, hK [] _ _ _ _ _ _ ?_⟩
  conv => whnf
  rw [h22]
  refine And.intro (fun _ => ?_) (fun q => absurd q (by omega))
  conv => whnf
  rw [h22, show ((L.length + 1 : Nat) : Int) - 1 = (L.length : Int) by omega]
  refine And.intro (rng_of (by omega) (by omega)) ?_
  refine And.intro (by omega) ?_
  conv => whnf
  rw [show 8 + ((L.length : Nat) : Int).toNat = 8 + L.length from rfl]
  refine ⟨w, c, f, 8 + L.length, -1, rfl, rfl, hG, by omega, fun G hg => ?_⟩
  refine ⟨w, kL c 12 G, f, 8 + L.length, rfl, rfl, hG, by omega, fun G2 b hg2 hb1 hb2 => ?_⟩
  have hV : ∀ t, t < fD f → gV f ((kL c 12 G).2.2.1 12) t = 0 + (-1) * V t := fun t ht => by
    rw [kL_at, hg t ht, WSt_row hW t ht, show Int64.ofInt (-1) = -1 from rfl]
    grind
  rw [show bi (small f (gV f ((kL c 12 G).2.2.1 12))) = bi (small f (fun t => 0 + (-1) * V t)) from small_congr hV]
  obtain ⟨t1, t2⟩ := takeW (c := c) (G := G2) (b := b) (W := fun t => 0 + (-1) * V t) (FKw_L c G) (WSt_low (c := c) (fun _ _ => rfl) hW.2) hV hb1
  exact And.intro (bi_01 _) (h2 _ t1 h22 t2)
theorem m_X8_negate (l : Launch) : mm_Met l yX8_negate cX8_negate 2 (some .boolean) 3 0 0 T_X8_negate := mm_met (E := e_X8_negate) (cd := kX8_negate) s_X8_negate (by decide) kX8_negate_ok (by decide +kernel) (by decide +kernel) (Or.inr (Or.inr (Or.inl ⟨rfl, rfl⟩))) rfl (mm_eok_X8 _) (mm_calls_cons (mm_cbv wi_X8_gather (tb4 (i := 25) rfl rfl) (m_X8_gather l) (by decide) (by decide) rfl) (mm_calls_cons (mm_cbv wi_X4_take (tb4 (i := 34) rfl rfl) (m_X4_take l) (by decide) (by decide) rfl) (mm_calls_nil)))
def T_X8_move : Tr := fun av h N _ => ∃ (w : CW) (c : CS) (f a : Nat) (V : VL) (L : List VL), av = [mR 31, mI a] ∧ h = hC w c ∧ CG f c ∧ a ≤ 506 ∧ c.1 22 = ((L.length + 1 : Nat) : Int) ∧ L.length ≤ 15 ∧ WSt f c (V :: L) ∧ WP w c f L (mvV f V a) N
abbrev e_X8_move : NE := (ftX8, [(110, (3, 0, 0, false, (0, 4), T_X4_move)), (96, (2, 0, 0, false, (0, 4), T_X4_take))], ltX8, [], [], false, 2, (0, 0), [], [], [], true)
theorem s_X8_move : mm_Spec e_X8_move kX8_move 3 T_X8_move := by
  rintro N X K av h hK ⟨w, c, f, a, V, L, rfl, rfl, hG, ha, h22, hL, hW, h2⟩
  refine ⟨rfl, hK [] _ _ _ _ _ _ ?_⟩
  conv => whnf
  rw [h22]
  refine And.intro (fun _ => ?_) (fun q => absurd q (by omega))
  conv => whnf
  rw [h22, show ((L.length + 1 : Nat) : Int) - 1 = (L.length : Int) by omega]
  refine And.intro (rng_of (by omega) (by omega)) ?_
  refine And.intro (by omega) ?_
  refine ⟨w, c, f, 8 + L.length, a, rfl, rfl, hG, by omega, ha, fun G hg => ?_⟩
  refine ⟨w, kL c 12 G, f, 8 + L.length, rfl, rfl, hG, by omega, fun G2 b hg2 hb1 hb2 => ?_⟩
  have hV : ∀ t, t < fD f → gV f ((kL c 12 G).2.2.1 12) t = mvV f V a t := fun t ht => by
    rw [kL_at, hg t ht]
    exact mvV_congr (WSt_row hW) a t
  rw [show bi (small f (gV f ((kL c 12 G).2.2.1 12))) = bi (small f (mvV f V a)) from small_congr hV]
  obtain ⟨t1, t2⟩ := takeW (c := c) (G := G2) (b := b) (W := mvV f V a) (FKw_L c G) (WSt_low (c := c) (fun _ _ => rfl) hW.2) hV hb1
  exact And.intro (bi_01 _) (h2 _ t1 h22 t2)
theorem m_X8_move (l : Launch) : mm_Met l yX8_move cX8_move 3 (some .boolean) 3 0 0 T_X8_move := mm_met (E := e_X8_move) (cd := kX8_move) s_X8_move (by decide) kX8_move_ok (by decide +kernel) (by decide +kernel) (Or.inr (Or.inr (Or.inl ⟨rfl, rfl⟩))) rfl (mm_eok_X8 _) (mm_calls_cons (mm_cbv wi_X4_move (tb4 (i := 39) rfl rfl) (m_X4_move l) (by decide) (by decide) rfl) (mm_calls_cons (mm_cbv wi_X4_take (tb4 (i := 34) rfl rfl) (m_X4_take l) (by decide) (by decide) rfl) (mm_calls_nil)))
def T_X8_join : Tr := fun av h N _ => ∃ (w : CW) (c : CS) (f : Nat) (x : Int) (V U : VL) (L : List VL), av = [mR 31, mI x] ∧ h = hC w c ∧ CG f c ∧ c.1 22 = ((L.length + 2 : Nat) : Int) ∧ L.length ≤ 14 ∧ WSt f c (V :: U :: L) ∧ WP w c f L (fun t => U t + Int64.ofInt x * V t) N
abbrev e_X8_join : NE := (ftX8, [(89, (3, 0, 0, false, (0, 8), T_X8_gather)), (103, (3, 0, 0, false, (0, 4), T_X4_addValue)), (96, (2, 0, 0, false, (0, 4), T_X4_take))], ltX8, [], [], false, 2, (0, 0), [], [], [], true)
set_option maxHeartbeats 4000000 in
theorem s_X8_join : mm_Spec e_X8_join kX8_join 2 T_X8_join := by
  rintro N X K av h hK ⟨w, c, f, x, V, U, L, rfl, rfl, hG, h22, hL, hW, h2⟩
  have hG0 : CG f (kI c 22 ((L.length + 1 : Nat) : Int)) := CG_w hG (FKw_I c _)
  refine ⟨rfl, hK [] _ _ _ _ _ _ ?_⟩
  conv => whnf
  rw [h22]
  refine And.intro (fun _ => ?_) (fun q => absurd q (by omega))
  conv => whnf
  rw [h22, show ((L.length + 2 : Nat) : Int) - 1 = ((L.length + 1 : Nat) : Int) by omega]
  refine And.intro (rng_of (by omega) (by omega)) ?_
  conv => whnf
  rw [show ((L.length + 1 : Nat) : Int) - 1 = (L.length : Int) by omega]
  refine And.intro (rng_of (by omega) (by omega)) ?_
  refine And.intro (by omega) ?_
  refine ⟨w, kI c 22 ((L.length + 1 : Nat) : Int), f, 8 + L.length, 1, rfl, rfl, hG0, by omega, fun G hg => ?_⟩
  conv => whnf
  rw [show (kL (kI c 22 ((L.length + 1 : Nat) : Int)) 12 G).1 22 = ((L.length + 1 : Nat) : Int) from rfl]
  refine And.intro (by omega) ?_
  refine ⟨w, kL (kI c 22 ((L.length + 1 : Nat) : Int)) 12 G, f, 8 + (L.length + 1), x, rfl, rfl, hG0, by omega, fun G2 hg2 => ?_⟩
  conv => whnf
  rw [show (kL (kL (kI c 22 ((L.length + 1 : Nat) : Int)) 12 G) 12 G2).1 22 = ((L.length + 1 : Nat) : Int) from rfl, show ((L.length + 1 : Nat) : Int) - 1 = (L.length : Int) by omega]
  refine And.intro (rng_of (by omega) (by omega)) ?_
  refine And.intro (by omega) ?_
  refine ⟨w, kL (kL (kI c 22 ((L.length + 1 : Nat) : Int)) 12 G) 12 G2, f, 8 + L.length, rfl, rfl, hG0, by omega, fun G3 b hg3 hb1 hb2 => ?_⟩
  have hV : ∀ t, t < fD f → gV f ((kL (kL (kI c 22 ((L.length + 1 : Nat) : Int)) 12 G) 12 G2).2.2.1 12) t = U t + Int64.ofInt x * V t := fun t ht => by
    rw [kL_at, hg2 t ht, kL_at, hg t ht]
    rw [show rowV (kI c 22 ((L.length + 1 : Nat) : Int)) (8 + L.length) t = U t from WSt_row hW.2 t ht, show rowV (kL (kI c 22 ((L.length + 1 : Nat) : Int)) 12 G) (8 + (L.length + 1)) t = V t from WSt_row hW t ht, show Int64.ofInt 1 = 1 from rfl]
    grind
  rw [show bi (small f (gV f ((kL (kL (kI c 22 ((L.length + 1 : Nat) : Int)) 12 G) 12 G2).2.2.1 12))) = bi (small f (fun t => U t + Int64.ofInt x * V t)) from small_congr hV]
  obtain ⟨t1, t2⟩ := takeW (c := c) (G := G3) (b := b) (W := fun t => U t + Int64.ofInt x * V t) (FKw_tr (FKw_tr (FKw_I c _) (FKw_L _ G)) (FKw_L _ G2)) (WSt_low (c := c) (fun _ _ => rfl) hW.2.2) hV hb1
  exact And.intro (bi_01 _) (h2 _ t1 rfl t2)
theorem m_X8_join (l : Launch) : mm_Met l yX8_join cX8_join 2 (some .boolean) 3 0 0 T_X8_join := mm_met (E := e_X8_join) (cd := kX8_join) s_X8_join (by decide) kX8_join_ok (by decide +kernel) (by decide +kernel) (Or.inr (Or.inr (Or.inl ⟨rfl, rfl⟩))) rfl (mm_eok_X8 _) (mm_calls_cons (mm_cbv wi_X8_gather (tb4 (i := 25) rfl rfl) (m_X8_gather l) (by decide) (by decide) rfl) (mm_calls_cons (mm_cbv wi_X4_addValue (tb4 (i := 30) rfl rfl) (m_X4_addValue l) (by decide) (by decide) rfl) (mm_calls_cons (mm_cbv wi_X4_take (tb4 (i := 34) rfl rfl) (m_X4_take l) (by decide) (by decide) rfl) (mm_calls_nil))))
def T_X8_multiply : Tr := fun av h N _ => ∃ (w : CW) (c : CS) (f : Nat) (V U : VL) (L : List VL), av = [mR 31] ∧ h = hC w c ∧ CG f c ∧ c.1 22 = ((L.length + 2 : Nat) : Int) ∧ L.length ≤ 14 ∧ WSt f c (V :: U :: L) ∧ WP w c f L (mulV f U V) N
abbrev e_X8_multiply : NE := (ftX8, [(112, (3, 0, 0, false, (0, 4), T_X4_multiply)), (96, (2, 0, 0, false, (0, 4), T_X4_take))], ltX8, [], [], false, 2, (0, 0), [], [], [], true)
set_option maxHeartbeats 4000000 in
theorem s_X8_multiply : mm_Spec e_X8_multiply kX8_multiply 1 T_X8_multiply := by
  rintro N X K av h hK ⟨w, c, f, V, U, L, rfl, rfl, hG, h22, hL, hW, h2⟩
  have hG0 : CG f (kI c 22 ((L.length + 1 : Nat) : Int)) := CG_w hG (FKw_I c _)
  refine ⟨rfl, hK [] _ _ _ _ _ _ ?_⟩
  conv => whnf
  rw [h22]
  refine And.intro (fun _ => ?_) (fun q => absurd q (by omega))
  conv => whnf
  rw [h22, show ((L.length + 2 : Nat) : Int) - 1 = ((L.length + 1 : Nat) : Int) by omega]
  refine And.intro (rng_of (by omega) (by omega)) ?_
  conv => whnf
  rw [show ((L.length + 1 : Nat) : Int) - 1 = (L.length : Int) by omega]
  refine And.intro (rng_of (by omega) (by omega)) ?_
  refine And.intro (by omega) ?_
  refine And.intro (by omega) ?_
  refine ⟨w, kI c 22 ((L.length + 1 : Nat) : Int), f, 8 + L.length, 8 + (L.length + 1), rfl, rfl, hG0, by omega, by omega, fun G hg => ?_⟩
  conv => whnf
  rw [show (kL (kI c 22 ((L.length + 1 : Nat) : Int)) 12 G).1 22 = ((L.length + 1 : Nat) : Int) from rfl, show ((L.length + 1 : Nat) : Int) - 1 = (L.length : Int) by omega]
  refine And.intro (rng_of (by omega) (by omega)) ?_
  refine And.intro (by omega) ?_
  refine ⟨w, kL (kI c 22 ((L.length + 1 : Nat) : Int)) 12 G, f, 8 + L.length, rfl, rfl, hG0, by omega, fun G3 b hg3 hb1 hb2 => ?_⟩
  have hV : ∀ t, t < fD f → gV f ((kL (kI c 22 ((L.length + 1 : Nat) : Int)) 12 G).2.2.1 12) t = mulV f U V t := fun t ht => by
    rw [kL_at, hg t ht]
    exact mulV_congr (WSt_row hW.2) (WSt_row hW) t
  rw [show bi (small f (gV f ((kL (kI c 22 ((L.length + 1 : Nat) : Int)) 12 G).2.2.1 12))) = bi (small f (mulV f U V)) from small_congr hV]
  obtain ⟨t1, t2⟩ := takeW (c := c) (G := G3) (b := b) (W := mulV f U V) (FKw_tr (FKw_I c _) (FKw_L _ G)) (WSt_low (c := c) (fun _ _ => rfl) hW.2.2) hV hb1
  exact And.intro (bi_01 _) (h2 _ t1 rfl t2)
theorem m_X8_multiply (l : Launch) : mm_Met l yX8_multiply cX8_multiply 1 (some .boolean) 3 0 0 T_X8_multiply := mm_met (E := e_X8_multiply) (cd := kX8_multiply) s_X8_multiply (by decide) kX8_multiply_ok (by decide +kernel) (by decide +kernel) (Or.inr (Or.inr (Or.inl ⟨rfl, rfl⟩))) rfl (mm_eok_X8 _) (mm_calls_cons (mm_cbv wi_X4_multiply (tb4 (i := 48) rfl rfl) (m_X4_multiply l) (by decide) (by decide) rfl) (mm_calls_cons (mm_cbv wi_X4_take (tb4 (i := 34) rfl rfl) (m_X4_take l) (by decide) (by decide) rfl) (mm_calls_nil)))
