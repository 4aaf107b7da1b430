/-! the law's own methods -/
abbrev hL (s : RS) (o : Int → Int64) (c : CS) : HP := hC (none, RH s [eL 1 o]) c
def LPw (s : RS) (o : Int → Int64) (a : AS) (p : Nat × Int64) (N : Option MV → HP → Prop) : Prop := (p.1 = 0 → ∀ (c : CS) (o' : Int → Int64), CR a c → o' 0 = p.2 → N (some (mI 0)) (hL s o' c)) ∧ (p.1 = 1 → ∀ c : CS, CR a c → N (some (mI 1)) (hL s o c)) ∧ (p.1 = 2 → ∀ c : CS, CR a c → N (some (mI 2)) (hL s o c))
theorem hc0 : mm_hc 0 xI = some 1 := by show (if xI = xI then some (1 : Int) else none) = _; rw [if_pos rfl]
theorem hc1 : mm_hc 1 xN = some 1 := by show (if xN = xN then some (1 : Int) else none) = _; rw [if_pos rfl]
theorem hc2n : mm_hc 2 xN = some 1 := by show (if xN = xN then some (1 : Int) else if xN = xI then some 2 else none) = _; rw [if_pos rfl]
theorem hc2i : mm_hc 2 xI = some 2 := by show (if xI = xN then some (1 : Int) else if xI = xI then some 2 else none) = _; rw [if_neg (by decide), if_pos rfl]
theorem updL0 (o : Int → Int64) (v : Int64) : mm_updL o 0 v 0 = v := if_pos rfl
theorem same01 (a : AS) (i j : Int) : (xSame a i j).2 = 0 ∨ (xSame a i j).2 = 1 := by
  unfold xSame
  split
  · show (if _ then (1 : Int) else 0) = 0 ∨ (if _ then (1 : Int) else 0) = 1
    split
    · exact Or.inr rfl
    · exact Or.inl rfl
  · exact Or.inl rfl
def T_L_tell : Tr := fun av h N _ => ∃ (s : RS) (o : Int → Int64) (c : CS) (a : AS) (p0 p1 : Int), av = [mR 0, mI p0, mI p1, mR 1029] ∧ h = hL s o c ∧ CR a c ∧ LPw s o ((xTell a p0 p1).1) ((xTell a p0 p1).2.1, Int64.ofInt (xTell a p0 p1).2.2) N
theorem s_L_tell : mm_SpecL 1 6 kL_tell 5 5 3 0 T_X9_tell T_L_tell := by
  rintro N K av h hK ⟨s, o, c, a, p0, p1, rfl, rfl, hc, h2⟩
  have go : ∀ (c' : CS) (v : Int), N (some (mI 0)) (hL s (mm_updL o 0 (Int64.ofInt v)) c') → K 8 [some (mR 0), some (mI p0), some (mI p1), some (mR 1029), none] [mI v, mI 0, mR 1029] (hL s o c') 1 6 := fun c' v hN => by
    refine hK [] _ _ _ _ _ _ ?_
    exact And.intro ⟨by decide, by decide⟩ hN
  refine ⟨[mR 0, mI p0, mI p1], [mI 0, mR 1029], [some (mR 0), some (mI p0), some (mI p1), some (mR 1029), none], fun r h' => K 8 [some (mR 0), some (mI p0), some (mI p1), some (mR 1029), none] (r.toList ++ [mI 0, mR 1029]) h' 1 6, rfl, by decide, rfl, ⟨RH s [eL 1 o], c, a, p0, p1, rfl, rfl, hc, ?_⟩, fun _ _ z => z, fun hk => ⟨rfl, hK [5] _ _ _ _ _ _ hk⟩⟩
  exact ⟨fun e c' hc' => go c' _ (h2.1 e c' _ hc' (updL0 _ _)), fun e c' hc' => ⟨1, hc0, h2.2.1 e c' hc'⟩⟩
theorem m_L_tell (l : Launch) (hl : l.stackTraces = false) : mm_MetL l yL_tell cL_tell 5 (mm_hh 0 10 13 0) 50 1 6 T_L_tell := mm_metL (i1 := 4) (i2 := 0) s_L_tell (by decide) rfl kL_tell_ok (by decide +kernel) (by decide +kernel) (by decide) (by decide +kernel) (by decide) ⟨by decide, Or.inl ⟨by decide +kernel, by decide +kernel, by decide +kernel⟩⟩ (fun z => absurd z (by decide)) (mm_cxv wi_X9_tell (tb3 (i := 103) rfl rfl) (m_X9_tell l hl) (by decide) (by decide) rfl)
def T_L_count : Tr := fun av h N _ => ∃ (s : RS) (o : Int → Int64) (c : CS) (a : AS) (p0 : Int), av = [mR 0, mI p0, mR 1029] ∧ h = hL s o c ∧ CR a c ∧ mm_rng p0 ∧ LPw s o a ((xCount a p0).1, Int64.ofInt (xCount a p0).2) N
theorem s_L_count : mm_SpecL 1 6 kL_count 4 4 2 1 T_X9_count T_L_count := by
  rintro N K av h hK ⟨s, o, c, a, p0, rfl, rfl, hc, hr, h2⟩
  have go : ∀ (c' : CS) (v : Int), N (some (mI 0)) (hL s (mm_updL o 0 (Int64.ofInt v)) c') → K 7 [some (mR 0), some (mI p0), some (mR 1029), none] [mI v, mI 0, mR 1029] (hL s o c') 1 6 := fun c' v hN => by
    refine hK [] _ _ _ _ _ _ ?_
    exact And.intro ⟨by decide, by decide⟩ hN
  refine ⟨[mR 0, mI p0], [mI 0, mR 1029], [some (mR 0), some (mI p0), some (mR 1029), none], fun r h' => K 7 [some (mR 0), some (mI p0), some (mR 1029), none] (r.toList ++ [mI 0, mR 1029]) h' 1 6, rfl, by decide, rfl, ⟨RH s [eL 1 o], c, a, p0, rfl, rfl, hc, hr, ?_⟩, fun _ _ z => z, fun hk => ⟨rfl, hK [4] _ _ _ _ _ _ hk⟩⟩
  have ne2 : ¬ ((xCount a p0)).1 = 2 := by
    unfold xCount
    repeat' split
    all_goals (intro z; cases z)
  exact ⟨fun e c' hc' => go c' _ (h2.1 e c' _ hc' (updL0 _ _)), fun e c' hc' => ⟨1, hc1, h2.2.1 e c' hc'⟩, fun e c' hc' => absurd e ne2⟩
theorem m_L_count (l : Launch) (hl : l.stackTraces = false) : mm_MetL l yL_count cL_count 4 (mm_hh 1 9 12 0) 7 1 6 T_L_count := mm_metL (i1 := 3) (i2 := 0) s_L_count (by decide) rfl kL_count_ok (by decide +kernel) (by decide +kernel) (by decide) (by decide +kernel) (by decide) ⟨by decide, Or.inr ⟨3, rfl, by decide +kernel, by decide +kernel, by decide +kernel⟩⟩ (fun z => absurd z (by decide)) (mm_cxv wi_X9_count (tb4 (i := 85) rfl rfl) (m_X9_count l hl) (by decide) (by decide) rfl)
def T_L_element : Tr := fun av h N _ => ∃ (s : RS) (o : Int → Int64) (c : CS) (a : AS) (p0 p1 p2 : Int), av = [mR 0, mI p0, mI p1, mI p2, mR 1029] ∧ h = hL s o c ∧ CR a c ∧ LPw s o a ((xElement (aF a) p0 p1 p2).1, Int64.ofInt (xElement (aF a) p0 p1 p2).2) N
theorem s_L_element : mm_SpecL 3 18 kL_element 6 7 4 1 T_X9_element T_L_element := by
  rintro N K av h hK ⟨s, o, c, a, p0, p1, p2, rfl, rfl, hc, h2⟩
  have go : ∀ (c' : CS) (v : Int), N (some (mI 0)) (hL s (mm_updL o 0 (Int64.ofInt v)) c') → K 10 [some (mR 0), some (mI p0), some (mI p1), some (mI p2), some (mR 1029), none] [mI v, mI 0, mR 1029] (hL s o c') 3 18 := fun c' v hN => by
    refine hK [] _ _ _ _ _ _ ?_
    exact And.intro ⟨by decide, by decide⟩ hN
  refine ⟨[mR 0, mI p0, mI p1, mI p2], [mI 0, mR 1029], [some (mR 0), some (mI p0), some (mI p1), some (mI p2), some (mR 1029), none], fun r h' => K 10 [some (mR 0), some (mI p0), some (mI p1), some (mI p2), some (mR 1029), none] (r.toList ++ [mI 0, mR 1029]) h' 3 18, rfl, by decide, rfl, ⟨RH s [eL 1 o], c, a, p0, p1, p2, rfl, rfl, hc, ?_⟩, fun _ _ z => z, fun hk => ⟨rfl, hK [7] _ _ _ _ _ _ hk⟩⟩
  have ne2 : ¬ ((xElement (aF a) p0 p1 p2)).1 = 2 := by
    unfold xElement
    repeat' split
    all_goals (intro z; cases z)
  exact ⟨fun e c' hc' => go c' _ (h2.1 e c' _ hc' (updL0 _ _)), fun e c' hc' => ⟨1, hc1, h2.2.1 e c' hc'⟩, fun e c' hc' => absurd e ne2⟩
theorem m_L_element (l : Launch) (hl : l.stackTraces = false) : mm_MetL l yL_element cL_element 6 (mm_hh 1 12 15 0) 8 3 18 T_L_element := mm_metL (i1 := 5) (i2 := 0) s_L_element (by decide) rfl kL_element_ok (by decide +kernel) (by decide +kernel) (by decide) (by decide +kernel) (by decide) ⟨by decide, Or.inl ⟨by decide +kernel, by decide +kernel, by decide +kernel⟩⟩ (fun z => absurd z (by decide)) (mm_cxv wi_X9_element (tb4 (i := 108) rfl rfl) (m_X9_element l hl) (by decide) (by decide) rfl)
def T_L_log : Tr := fun av h N _ => ∃ (s : RS) (o : Int → Int64) (c : CS) (a : AS) (p0 : Int), av = [mR 0, mI p0, mR 1029] ∧ h = hL s o c ∧ CR a c ∧ LPw s o a ((xLog (aF a) p0).1, Int64.ofInt (xLog (aF a) p0).2) N
theorem s_L_log : mm_SpecL 2 12 kL_log 4 4 2 1 T_X9_log T_L_log := by
  rintro N K av h hK ⟨s, o, c, a, p0, rfl, rfl, hc, h2⟩
  have go : ∀ (c' : CS) (v : Int), N (some (mI 0)) (hL s (mm_updL o 0 (Int64.ofInt v)) c') → K 7 [some (mR 0), some (mI p0), some (mR 1029), none] [mI v, mI 0, mR 1029] (hL s o c') 2 12 := fun c' v hN => by
    refine hK [] _ _ _ _ _ _ ?_
    exact And.intro ⟨by decide, by decide⟩ hN
  refine ⟨[mR 0, mI p0], [mI 0, mR 1029], [some (mR 0), some (mI p0), some (mR 1029), none], fun r h' => K 7 [some (mR 0), some (mI p0), some (mR 1029), none] (r.toList ++ [mI 0, mR 1029]) h' 2 12, rfl, by decide, rfl, ⟨RH s [eL 1 o], c, a, p0, rfl, rfl, hc, ?_⟩, fun _ _ z => z, fun hk => ⟨rfl, hK [4] _ _ _ _ _ _ hk⟩⟩
  have ne2 : ¬ ((xLog (aF a) p0)).1 = 2 := by
    unfold xLog
    repeat' split
    all_goals (intro z; cases z)
  exact ⟨fun e c' hc' => go c' _ (h2.1 e c' _ hc' (updL0 _ _)), fun e c' hc' => ⟨1, hc1, h2.2.1 e c' hc'⟩, fun e c' hc' => absurd e ne2⟩
theorem m_L_log (l : Launch) (hl : l.stackTraces = false) : mm_MetL l yL_log cL_log 4 (mm_hh 1 9 12 0) 8 2 12 T_L_log := mm_metL (i1 := 3) (i2 := 0) s_L_log (by decide) rfl kL_log_ok (by decide +kernel) (by decide +kernel) (by decide) (by decide +kernel) (by decide) ⟨by decide, Or.inr ⟨3, rfl, by decide +kernel, by decide +kernel, by decide +kernel⟩⟩ (fun z => absurd z (by decide)) (mm_cxv wi_X9_log (tb4 (i := 125) rfl rfl) (m_X9_log l hl) (by decide) (by decide) rfl)
def T_L_trace : Tr := fun av h N _ => ∃ (s : RS) (o : Int → Int64) (c : CS) (a : AS) (p0 : Int), av = [mR 0, mI p0, mR 1029] ∧ h = hL s o c ∧ CR a c ∧ LPw s o a ((xTrace (aF a) p0).1, Int64.ofInt (xTrace (aF a) p0).2) N
theorem s_L_trace : mm_SpecL 1 6 kL_trace 4 4 2 1 T_X9_trace T_L_trace := by
  rintro N K av h hK ⟨s, o, c, a, p0, rfl, rfl, hc, h2⟩
  have go : ∀ (c' : CS) (v : Int), N (some (mI 0)) (hL s (mm_updL o 0 (Int64.ofInt v)) c') → K 7 [some (mR 0), some (mI p0), some (mR 1029), none] [mI v, mI 0, mR 1029] (hL s o c') 1 6 := fun c' v hN => by
    refine hK [] _ _ _ _ _ _ ?_
    exact And.intro ⟨by decide, by decide⟩ hN
  refine ⟨[mR 0, mI p0], [mI 0, mR 1029], [some (mR 0), some (mI p0), some (mR 1029), none], fun r h' => K 7 [some (mR 0), some (mI p0), some (mR 1029), none] (r.toList ++ [mI 0, mR 1029]) h' 1 6, rfl, by decide, rfl, ⟨RH s [eL 1 o], c, a, p0, rfl, rfl, hc, ?_⟩, fun _ _ z => z, fun hk => ⟨rfl, hK [4] _ _ _ _ _ _ hk⟩⟩
  have ne2 : ¬ ((xTrace (aF a) p0)).1 = 2 := by
    unfold xTrace
    repeat' split
    all_goals (intro z; cases z)
  exact ⟨fun e c' hc' => go c' _ (h2.1 e c' _ hc' (updL0 _ _)), fun e c' hc' => ⟨1, hc1, h2.2.1 e c' hc'⟩, fun e c' hc' => absurd e ne2⟩
theorem m_L_trace (l : Launch) (hl : l.stackTraces = false) : mm_MetL l yL_trace cL_trace 4 (mm_hh 1 9 12 0) 8 1 6 T_L_trace := mm_metL (i1 := 3) (i2 := 0) s_L_trace (by decide) rfl kL_trace_ok (by decide +kernel) (by decide +kernel) (by decide) (by decide +kernel) (by decide) ⟨by decide, Or.inr ⟨3, rfl, by decide +kernel, by decide +kernel, by decide +kernel⟩⟩ (fun z => absurd z (by decide)) (mm_cxv wi_X9_trace (tb4 (i := 134) rfl rfl) (m_X9_trace l hl) (by decide) (by decide) rfl)
def T_L_character : Tr := fun av h N _ => ∃ (s : RS) (o : Int → Int64) (c : CS) (a : AS) (p0 p1 : Int), av = [mR 0, mI p0, mI p1, mR 1029] ∧ h = hL s o c ∧ CR a c ∧ LPw s o a ((xCharacter (aF a) p0 p1).1, Int64.ofInt (xCharacter (aF a) p0 p1).2) N
theorem s_L_character : mm_SpecL 2 12 kL_character 5 5 3 1 T_X9_character T_L_character := by
  rintro N K av h hK ⟨s, o, c, a, p0, p1, rfl, rfl, hc, h2⟩
  have go : ∀ (c' : CS) (v : Int), N (some (mI 0)) (hL s (mm_updL o 0 (Int64.ofInt v)) c') → K 8 [some (mR 0), some (mI p0), some (mI p1), some (mR 1029), none] [mI v, mI 0, mR 1029] (hL s o c') 2 12 := fun c' v hN => by
    refine hK [] _ _ _ _ _ _ ?_
    exact And.intro ⟨by decide, by decide⟩ hN
  refine ⟨[mR 0, mI p0, mI p1], [mI 0, mR 1029], [some (mR 0), some (mI p0), some (mI p1), some (mR 1029), none], fun r h' => K 8 [some (mR 0), some (mI p0), some (mI p1), some (mR 1029), none] (r.toList ++ [mI 0, mR 1029]) h' 2 12, rfl, by decide, rfl, ⟨RH s [eL 1 o], c, a, p0, p1, rfl, rfl, hc, ?_⟩, fun _ _ z => z, fun hk => ⟨rfl, hK [5] _ _ _ _ _ _ hk⟩⟩
  have ne2 : ¬ ((xCharacter (aF a) p0 p1)).1 = 2 := by
    unfold xCharacter
    repeat' split
    all_goals (intro z; cases z)
  exact ⟨fun e c' hc' => go c' _ (h2.1 e c' _ hc' (updL0 _ _)), fun e c' hc' => ⟨1, hc1, h2.2.1 e c' hc'⟩, fun e c' hc' => absurd e ne2⟩
theorem m_L_character (l : Launch) (hl : l.stackTraces = false) : mm_MetL l yL_character cL_character 5 (mm_hh 1 10 13 0) 8 2 12 T_L_character := mm_metL (i1 := 4) (i2 := 0) s_L_character (by decide) rfl kL_character_ok (by decide +kernel) (by decide +kernel) (by decide) (by decide +kernel) (by decide) ⟨by decide, Or.inl ⟨by decide +kernel, by decide +kernel, by decide +kernel⟩⟩ (fun z => absurd z (by decide)) (mm_cxv wi_X9_character (tb4 (i := 142) rfl rfl) (m_X9_character l hl) (by decide) (by decide) rfl)
def T_L_order : Tr := fun av h N _ => ∃ (s : RS) (o : Int → Int64) (c : CS) (a : AS) (p0 : Int), av = [mR 0, mI p0, mR 1029] ∧ h = hL s o c ∧ CR a c ∧ LPw s o a ((xOrder (aF a) p0).1, Int64.ofInt (xOrder (aF a) p0).2) N
theorem s_L_order : mm_SpecL 1 6 kL_order 4 4 2 1 T_X9_order T_L_order := by
  rintro N K av h hK ⟨s, o, c, a, p0, rfl, rfl, hc, h2⟩
  have go : ∀ (c' : CS) (v : Int), N (some (mI 0)) (hL s (mm_updL o 0 (Int64.ofInt v)) c') → K 7 [some (mR 0), some (mI p0), some (mR 1029), none] [mI v, mI 0, mR 1029] (hL s o c') 1 6 := fun c' v hN => by
    refine hK [] _ _ _ _ _ _ ?_
    exact And.intro ⟨by decide, by decide⟩ hN
  refine ⟨[mR 0, mI p0], [mI 0, mR 1029], [some (mR 0), some (mI p0), some (mR 1029), none], fun r h' => K 7 [some (mR 0), some (mI p0), some (mR 1029), none] (r.toList ++ [mI 0, mR 1029]) h' 1 6, rfl, by decide, rfl, ⟨RH s [eL 1 o], c, a, p0, rfl, rfl, hc, ?_⟩, fun _ _ z => z, fun hk => ⟨rfl, hK [4] _ _ _ _ _ _ hk⟩⟩
  have ne2 : ¬ ((xOrder (aF a) p0)).1 = 2 := by
    unfold xOrder
    repeat' split
    all_goals (intro z; cases z)
  exact ⟨fun e c' hc' => go c' _ (h2.1 e c' _ hc' (updL0 _ _)), fun e c' hc' => ⟨1, hc1, h2.2.1 e c' hc'⟩, fun e c' hc' => absurd e ne2⟩
theorem m_L_order (l : Launch) (hl : l.stackTraces = false) : mm_MetL l yL_order cL_order 4 (mm_hh 1 9 12 0) 8 1 6 T_L_order := mm_metL (i1 := 3) (i2 := 0) s_L_order (by decide) rfl kL_order_ok (by decide +kernel) (by decide +kernel) (by decide) (by decide +kernel) (by decide) ⟨by decide, Or.inr ⟨3, rfl, by decide +kernel, by decide +kernel, by decide +kernel⟩⟩ (fun z => absurd z (by decide)) (mm_cxv wi_X9_order (tb4 (i := 155) rfl rfl) (m_X9_order l hl) (by decide) (by decide) rfl)
def T_L_coefficient : Tr := fun av h N _ => ∃ (s : RS) (o : Int → Int64) (c : CS) (a : AS) (p0 p1 : Int), av = [mR 0, mI p0, mI p1, mR 1029] ∧ h = hL s o c ∧ CR a c ∧ LPw s o a ((xCoefficient a p0 p1).1, Int64.ofInt (xCoefficient a p0 p1).2) N
theorem s_L_coefficient : mm_SpecL 2 12 kL_coefficient 5 5 3 1 T_X9_coefficient T_L_coefficient := by
  rintro N K av h hK ⟨s, o, c, a, p0, p1, rfl, rfl, hc, h2⟩
  have go : ∀ (c' : CS) (v : Int), N (some (mI 0)) (hL s (mm_updL o 0 (Int64.ofInt v)) c') → K 8 [some (mR 0), some (mI p0), some (mI p1), some (mR 1029), none] [mI v, mI 0, mR 1029] (hL s o c') 2 12 := fun c' v hN => by
    refine hK [] _ _ _ _ _ _ ?_
    exact And.intro ⟨by decide, by decide⟩ hN
  refine ⟨[mR 0, mI p0, mI p1], [mI 0, mR 1029], [some (mR 0), some (mI p0), some (mI p1), some (mR 1029), none], fun r h' => K 8 [some (mR 0), some (mI p0), some (mI p1), some (mR 1029), none] (r.toList ++ [mI 0, mR 1029]) h' 2 12, rfl, by decide, rfl, ⟨RH s [eL 1 o], c, a, p0, p1, rfl, rfl, hc, ?_⟩, fun _ _ z => z, fun hk => ⟨rfl, hK [5] _ _ _ _ _ _ hk⟩⟩
  have ne2 : ¬ ((xCoefficient a p0 p1)).1 = 2 := by
    unfold xCoefficient
    repeat' split
    all_goals (intro z; cases z)
  exact ⟨fun e c' hc' => go c' _ (h2.1 e c' _ hc' (updL0 _ _)), fun e c' hc' => ⟨1, hc1, h2.2.1 e c' hc'⟩, fun e c' hc' => absurd e ne2⟩
theorem m_L_coefficient (l : Launch) (hl : l.stackTraces = false) : mm_MetL l yL_coefficient cL_coefficient 5 (mm_hh 1 10 13 0) 8 2 12 T_L_coefficient := mm_metL (i1 := 4) (i2 := 0) s_L_coefficient (by decide) rfl kL_coefficient_ok (by decide +kernel) (by decide +kernel) (by decide) (by decide +kernel) (by decide) ⟨by decide, Or.inl ⟨by decide +kernel, by decide +kernel, by decide +kernel⟩⟩ (fun z => absurd z (by decide)) (mm_cxv wi_X9_coefficient (tb4 (i := 162) rfl rfl) (m_X9_coefficient l hl) (by decide) (by decide) rfl)
def T_L_of : Tr := fun av h N _ => ∃ (s : RS) (o : Int → Int64) (c : CS) (a : AS) (p0 p1 : Int), av = [mR 0, mI p0, mI p1, mR 1029] ∧ h = hL s o c ∧ CR a c ∧ LPw s o a (xOf a p0 p1) N
theorem s_L_of : mm_SpecL 2 12 kL_of 5 5 3 1 T_X9_of T_L_of := by
  rintro N K av h hK ⟨s, o, c, a, p0, p1, rfl, rfl, hc, h2⟩
  have go : ∀ (c' : CS) (v : Int64), N (some (mI 0)) (hL s (mm_updL o 0 v) c') → K 8 [some (mR 0), some (mI p0), some (mI p1), some (mR 1029), none] [mL v, mI 0, mR 1029] (hL s o c') 2 12 := fun c' v hN => by
    refine hK [] _ _ _ _ _ _ ?_
    exact And.intro ⟨by decide, by decide⟩ hN
  refine ⟨[mR 0, mI p0, mI p1], [mI 0, mR 1029], [some (mR 0), some (mI p0), some (mI p1), some (mR 1029), none], fun r h' => K 8 [some (mR 0), some (mI p0), some (mI p1), some (mR 1029), none] (r.toList ++ [mI 0, mR 1029]) h' 2 12, rfl, by decide, rfl, ⟨RH s [eL 1 o], c, a, p0, p1, rfl, rfl, hc, ?_⟩, fun _ _ z => z, fun hk => ⟨rfl, hK [5] _ _ _ _ _ _ hk⟩⟩
  exact ⟨fun e c' hc' => go c' _ (h2.1 e c' _ hc' (updL0 _ _)), fun e c' hc' => ⟨1, hc1, h2.2.1 e c' hc'⟩⟩
theorem m_L_of (l : Launch) (hl : l.stackTraces = false) : mm_MetL l yL_of cL_of 5 (mm_hh 1 9 12 0) 8 2 12 T_L_of := mm_metL (i1 := 4) (i2 := 0) s_L_of (by decide) rfl kL_of_ok (by decide +kernel) (by decide +kernel) (by decide) (by decide +kernel) (by decide) ⟨by decide, Or.inl ⟨by decide +kernel, by decide +kernel, by decide +kernel⟩⟩ (fun z => absurd z (by decide)) (mm_cxv wi_X9_of (tb4 (i := 175) rfl rfl) (m_X9_of l hl) (by decide) (by decide) rfl)
def T_L_same : Tr := fun av h N _ => ∃ (s : RS) (o : Int → Int64) (c : CS) (a : AS) (p0 p1 : Int), av = [mR 0, mI p0, mI p1, mR 1029] ∧ h = hL s o c ∧ CR a c ∧ LPw s o a ((xSame a p0 p1).1, Int64.ofInt (xSame a p0 p1).2) N
theorem s_L_same : mm_SpecL 2 12 kL_same 5 5 3 1 T_X9_same T_L_same := by
  rintro N K av h hK ⟨s, o, c, a, p0, p1, rfl, rfl, hc, h2⟩
  have go : ∀ (c' : CS) (v : Int), (v = 0 ∨ v = 1) → N (some (mI 0)) (hL s (mm_updL o 0 (Int64.ofInt v)) c') → K 8 [some (mR 0), some (mI p0), some (mI p1), some (mR 1029), none] [mI v, mI 0, mR 1029] (hL s o c') 2 12 := fun c' v hv hN => by
    refine hK [] _ _ _ _ _ _ ?_
    rcases hv with rfl | rfl
    · refine And.intro (fun _ => ?_) (fun z => absurd rfl z)
      exact And.intro ⟨by decide, by decide⟩ hN
    · refine And.intro (fun z => absurd z (by decide)) (fun _ => ?_)
      exact And.intro ⟨by decide, by decide⟩ hN
  refine ⟨[mR 0, mI p0, mI p1], [mI 0, mR 1029], [some (mR 0), some (mI p0), some (mI p1), some (mR 1029), none], fun r h' => K 8 [some (mR 0), some (mI p0), some (mI p1), some (mR 1029), none] (r.toList ++ [mI 0, mR 1029]) h' 2 12, rfl, by decide, rfl, ⟨RH s [eL 1 o], c, a, p0, p1, rfl, rfl, hc, ?_⟩, fun _ _ z => z, fun hk => ⟨rfl, hK [5] _ _ _ _ _ _ hk⟩⟩
  have ne2 : ¬ ((xSame a p0 p1)).1 = 2 := by
    unfold xSame
    repeat' split
    all_goals (intro z; cases z)
  exact ⟨fun e c' hc' => go c' _ (same01 _ _ _) (h2.1 e c' _ hc' (updL0 _ _)), fun e c' hc' => ⟨1, hc1, h2.2.1 e c' hc'⟩, fun e c' hc' => absurd e ne2⟩
theorem m_L_same (l : Launch) (hl : l.stackTraces = false) : mm_MetL l yL_same cL_same 5 (mm_hh 1 17 20 0) 8 2 12 T_L_same := mm_metL (i1 := 4) (i2 := 0) s_L_same (by decide) rfl kL_same_ok (by decide +kernel) (by decide +kernel) (by decide) (by decide +kernel) (by decide) ⟨by decide, Or.inl ⟨by decide +kernel, by decide +kernel, by decide +kernel⟩⟩ (fun z => absurd z (by decide)) (mm_cxv wi_X9_same (tb4 (i := 206) rfl rfl) (m_X9_same l hl) (by decide) (by decide) rfl)
def T_L_solutions : Tr := fun av h N _ => ∃ (s : RS) (o : Int → Int64) (c : CS) (a : AS) (p0 p1 p2 p3 p4 : Int), av = [mR 0, mI p0, mI p1, mI p2, mI p3, mI p4, mR 1029] ∧ h = hL s o c ∧ CR a c ∧ LPw s o a ((xSolutions (aF a) p0 p1 p2 p3 p4).1, Int64.ofInt (xSolutions (aF a) p0 p1 p2 p3 p4).2) N
theorem s_L_solutions : mm_SpecL 5 30 kL_solutions 8 11 6 2 T_X9_solutions T_L_solutions := by
  rintro N K av h hK ⟨s, o, c, a, p0, p1, p2, p3, p4, rfl, rfl, hc, h2⟩
  have go : ∀ (c' : CS) (v : Int), N (some (mI 0)) (hL s (mm_updL o 0 (Int64.ofInt v)) c') → K 14 [some (mR 0), some (mI p0), some (mI p1), some (mI p2), some (mI p3), some (mI p4), some (mR 1029), none] [mI v, mI 0, mR 1029] (hL s o c') 5 30 := fun c' v hN => by
    refine hK [] _ _ _ _ _ _ ?_
    exact And.intro ⟨by decide, by decide⟩ hN
  refine ⟨[mR 0, mI p0, mI p1, mI p2, mI p3, mI p4], [mI 0, mR 1029], [some (mR 0), some (mI p0), some (mI p1), some (mI p2), some (mI p3), some (mI p4), some (mR 1029), none], fun r h' => K 14 [some (mR 0), some (mI p0), some (mI p1), some (mI p2), some (mI p3), some (mI p4), some (mR 1029), none] (r.toList ++ [mI 0, mR 1029]) h' 5 30, rfl, by decide, rfl, ⟨RH s [eL 1 o], c, a, p0, p1, p2, p3, p4, rfl, rfl, hc, ?_⟩, fun _ _ z => z, fun hk => ⟨rfl, hK [11] _ _ _ _ _ _ hk⟩⟩
  exact ⟨fun e c' hc' => go c' _ (h2.1 e c' _ hc' (updL0 _ _)), fun e c' hc' => ⟨1, hc2n, h2.2.1 e c' hc'⟩, fun e c' hc' => ⟨2, hc2i, h2.2.2 e c' hc'⟩⟩
theorem m_L_solutions (l : Launch) (hl : l.stackTraces = false) : mm_MetL l yL_solutions cL_solutions 8 (mm_hh 2 16 19 23) 8 5 30 T_L_solutions := mm_metL (i1 := 7) (i2 := 7) s_L_solutions (by decide) rfl kL_solutions_ok (by decide +kernel) (by decide +kernel) (by decide) (by decide +kernel) (by decide) ⟨by decide, Or.inl ⟨by decide +kernel, by decide +kernel, by decide +kernel⟩⟩ (fun _ => ⟨by decide, Or.inl ⟨by decide +kernel, by decide +kernel, by decide +kernel⟩⟩) (mm_cxv wi_X9_solutions (tb4 (i := 217) rfl rfl) (m_X9_solutions l hl) (by decide) (by decide) rfl)
def T_L_points : Tr := fun av h N _ => ∃ (s : RS) (o : Int → Int64) (c : CS) (a : AS) (p0 p1 p2 p3 : Int), av = [mR 0, mI p0, mI p1, mI p2, mI p3, mR 1029] ∧ h = hL s o c ∧ CR a c ∧ LPw s o a ((xPoints (aF a) p0 p1 p2 p3).1, Int64.ofInt (xPoints (aF a) p0 p1 p2 p3).2) N
theorem s_L_points : mm_SpecL 4 24 kL_points 7 9 5 2 T_X9_points T_L_points := by
  rintro N K av h hK ⟨s, o, c, a, p0, p1, p2, p3, rfl, rfl, hc, h2⟩
  have go : ∀ (c' : CS) (v : Int), N (some (mI 0)) (hL s (mm_updL o 0 (Int64.ofInt v)) c') → K 12 [some (mR 0), some (mI p0), some (mI p1), some (mI p2), some (mI p3), some (mR 1029), none] [mI v, mI 0, mR 1029] (hL s o c') 4 24 := fun c' v hN => by
    refine hK [] _ _ _ _ _ _ ?_
    exact And.intro ⟨by decide, by decide⟩ hN
  refine ⟨[mR 0, mI p0, mI p1, mI p2, mI p3], [mI 0, mR 1029], [some (mR 0), some (mI p0), some (mI p1), some (mI p2), some (mI p3), some (mR 1029), none], fun r h' => K 12 [some (mR 0), some (mI p0), some (mI p1), some (mI p2), some (mI p3), some (mR 1029), none] (r.toList ++ [mI 0, mR 1029]) h' 4 24, rfl, by decide, rfl, ⟨RH s [eL 1 o], c, a, p0, p1, p2, p3, rfl, rfl, hc, ?_⟩, fun _ _ z => z, fun hk => ⟨rfl, hK [9] _ _ _ _ _ _ hk⟩⟩
  exact ⟨fun e c' hc' => go c' _ (h2.1 e c' _ hc' (updL0 _ _)), fun e c' hc' => ⟨1, hc2n, h2.2.1 e c' hc'⟩, fun e c' hc' => ⟨2, hc2i, h2.2.2 e c' hc'⟩⟩
theorem m_L_points (l : Launch) (hl : l.stackTraces = false) : mm_MetL l yL_points cL_points 7 (mm_hh 2 14 17 21) 8 4 24 T_L_points := mm_metL (i1 := 6) (i2 := 6) s_L_points (by decide) rfl kL_points_ok (by decide +kernel) (by decide +kernel) (by decide) (by decide +kernel) (by decide) ⟨by decide, Or.inl ⟨by decide +kernel, by decide +kernel, by decide +kernel⟩⟩ (fun _ => ⟨by decide, Or.inl ⟨by decide +kernel, by decide +kernel, by decide +kernel⟩⟩) (mm_cxv wi_X9_points (tb5 (i := 5) rfl rfl) (m_X9_points l hl) (by decide) (by decide) rfl)
def T_L_rows : Tr := fun av h N _ => ∃ (s : RS) (o : Int → Int64) (c : CS) (a : AS) (p0 p1 p2 : Int), av = [mR 0, mI p0, mI p1, mI p2, mR 1029] ∧ h = hL s o c ∧ CR a c ∧ LPw s o a ((xRows (aF a) p0 p1 p2).1, Int64.ofInt (xRows (aF a) p0 p1 p2).2) N
theorem s_L_rows : mm_SpecL 3 18 kL_rows 6 7 4 2 T_X9_rows T_L_rows := by
  rintro N K av h hK ⟨s, o, c, a, p0, p1, p2, rfl, rfl, hc, h2⟩
  have go : ∀ (c' : CS) (v : Int), N (some (mI 0)) (hL s (mm_updL o 0 (Int64.ofInt v)) c') → K 10 [some (mR 0), some (mI p0), some (mI p1), some (mI p2), some (mR 1029), none] [mI v, mI 0, mR 1029] (hL s o c') 3 18 := fun c' v hN => by
    refine hK [] _ _ _ _ _ _ ?_
    exact And.intro ⟨by decide, by decide⟩ hN
  refine ⟨[mR 0, mI p0, mI p1, mI p2], [mI 0, mR 1029], [some (mR 0), some (mI p0), some (mI p1), some (mI p2), some (mR 1029), none], fun r h' => K 10 [some (mR 0), some (mI p0), some (mI p1), some (mI p2), some (mR 1029), none] (r.toList ++ [mI 0, mR 1029]) h' 3 18, rfl, by decide, rfl, ⟨RH s [eL 1 o], c, a, p0, p1, p2, rfl, rfl, hc, ?_⟩, fun _ _ z => z, fun hk => ⟨rfl, hK [7] _ _ _ _ _ _ hk⟩⟩
  exact ⟨fun e c' hc' => go c' _ (h2.1 e c' _ hc' (updL0 _ _)), fun e c' hc' => ⟨1, hc2n, h2.2.1 e c' hc'⟩, fun e c' hc' => ⟨2, hc2i, h2.2.2 e c' hc'⟩⟩
theorem m_L_rows (l : Launch) (hl : l.stackTraces = false) : mm_MetL l yL_rows cL_rows 6 (mm_hh 2 12 15 19) 8 3 18 T_L_rows := mm_metL (i1 := 5) (i2 := 5) s_L_rows (by decide) rfl kL_rows_ok (by decide +kernel) (by decide +kernel) (by decide) (by decide +kernel) (by decide) ⟨by decide, Or.inl ⟨by decide +kernel, by decide +kernel, by decide +kernel⟩⟩ (fun _ => ⟨by decide, Or.inl ⟨by decide +kernel, by decide +kernel, by decide +kernel⟩⟩) (mm_cxv wi_X9_rows (tb5 (i := 12) rfl rfl) (m_X9_rows l hl) (by decide) (by decide) rfl)
def T_L_lifted : Tr := fun av h N _ => ∃ (s : RS) (o : Int → Int64) (c : CS) (a : AS) (p0 p1 p2 : Int), av = [mR 0, mI p0, mI p1, mI p2, mR 1029] ∧ h = hL s o c ∧ CR a c ∧ LPw s o a ((xLifted (aF a) p0 p1 p2).1, Int64.ofInt (xLifted (aF a) p0 p1 p2).2) N
theorem s_L_lifted : mm_SpecL 1 6 kL_lifted 6 7 4 0 T_X9_lifted T_L_lifted := by
  rintro N K av h hK ⟨s, o, c, a, p0, p1, p2, rfl, rfl, hc, h2⟩
  have go : ∀ (c' : CS) (v : Int), N (some (mI 0)) (hL s (mm_updL o 0 (Int64.ofInt v)) c') → K 10 [some (mR 0), some (mI p0), some (mI p1), some (mI p2), some (mR 1029), none] [mI v, mI 0, mR 1029] (hL s o c') 1 6 := fun c' v hN => by
    refine hK [] _ _ _ _ _ _ ?_
    exact And.intro ⟨by decide, by decide⟩ hN
  refine ⟨[mR 0, mI p0, mI p1, mI p2], [mI 0, mR 1029], [some (mR 0), some (mI p0), some (mI p1), some (mI p2), some (mR 1029), none], fun r h' => K 10 [some (mR 0), some (mI p0), some (mI p1), some (mI p2), some (mR 1029), none] (r.toList ++ [mI 0, mR 1029]) h' 1 6, rfl, by decide, rfl, ⟨RH s [eL 1 o], c, a, p0, p1, p2, rfl, rfl, hc, ?_⟩, fun _ _ z => z, fun hk => ⟨rfl, hK [7] _ _ _ _ _ _ hk⟩⟩
  exact ⟨fun e c' hc' => go c' _ (h2.1 e c' _ hc' (updL0 _ _)), fun e c' hc' => ⟨1, hc0, h2.2.1 e c' hc'⟩⟩
theorem m_L_lifted (l : Launch) (hl : l.stackTraces = false) : mm_MetL l yL_lifted cL_lifted 6 (mm_hh 0 12 15 0) 7 1 6 T_L_lifted := mm_metL (i1 := 5) (i2 := 0) s_L_lifted (by decide) rfl kL_lifted_ok (by decide +kernel) (by decide +kernel) (by decide) (by decide +kernel) (by decide) ⟨by decide, Or.inl ⟨by decide +kernel, by decide +kernel, by decide +kernel⟩⟩ (fun z => absurd z (by decide)) (mm_cxv wi_X9_lifted (tb5 (i := 20) rfl rfl) (m_X9_lifted l hl) (by decide) (by decide) rfl)
def T_L_curve : Tr := fun av h N _ => ∃ (s : RS) (o : Int → Int64) (c : CS) (a : AS) (p0 p1 : Int), av = [mR 0, mI p0, mI p1, mR 1029] ∧ h = hL s o c ∧ CR a c ∧ LPw s o a ((xCurve (aF a) p0 p1).1, Int64.ofInt (xCurve (aF a) p0 p1).2) N
theorem s_L_curve : mm_SpecL 2 12 kL_curve 5 5 3 1 T_X9_curve T_L_curve := by
  rintro N K av h hK ⟨s, o, c, a, p0, p1, rfl, rfl, hc, h2⟩
  have go : ∀ (c' : CS) (v : Int), N (some (mI 0)) (hL s (mm_updL o 0 (Int64.ofInt v)) c') → K 8 [some (mR 0), some (mI p0), some (mI p1), some (mR 1029), none] [mI v, mI 0, mR 1029] (hL s o c') 2 12 := fun c' v hN => by
    refine hK [] _ _ _ _ _ _ ?_
    exact And.intro ⟨by decide, by decide⟩ hN
  refine ⟨[mR 0, mI p0, mI p1], [mI 0, mR 1029], [some (mR 0), some (mI p0), some (mI p1), some (mR 1029), none], fun r h' => K 8 [some (mR 0), some (mI p0), some (mI p1), some (mR 1029), none] (r.toList ++ [mI 0, mR 1029]) h' 2 12, rfl, by decide, rfl, ⟨RH s [eL 1 o], c, a, p0, p1, rfl, rfl, hc, ?_⟩, fun _ _ z => z, fun hk => ⟨rfl, hK [5] _ _ _ _ _ _ hk⟩⟩
  have ne2 : ¬ ((xCurve (aF a) p0 p1)).1 = 2 := by
    unfold xCurve
    repeat' split
    all_goals (intro z; cases z)
  exact ⟨fun e c' hc' => go c' _ (h2.1 e c' _ hc' (updL0 _ _)), fun e c' hc' => ⟨1, hc1, h2.2.1 e c' hc'⟩, fun e c' hc' => absurd e ne2⟩
theorem m_L_curve (l : Launch) (hl : l.stackTraces = false) : mm_MetL l yL_curve cL_curve 5 (mm_hh 1 10 13 0) 8 2 12 T_L_curve := mm_metL (i1 := 4) (i2 := 0) s_L_curve (by decide) rfl kL_curve_ok (by decide +kernel) (by decide +kernel) (by decide) (by decide +kernel) (by decide) ⟨by decide, Or.inl ⟨by decide +kernel, by decide +kernel, by decide +kernel⟩⟩ (fun z => absurd z (by decide)) (mm_cxv wi_X9_curve (tb5 (i := 60) rfl rfl) (m_X9_curve l hl) (by decide) (by decide) rfl)
def T_L_least : Tr := fun av h N _ => ∃ (s : RS) (o : Int → Int64) (c : CS) (a : AS) (p0 p1 : Int), av = [mR 0, mI p0, mI p1, mR 1029] ∧ h = hL s o c ∧ CR a c ∧ LPw s o a ((xLeast (aF a) p0 p1).1, Int64.ofInt (xLeast (aF a) p0 p1).2) N
theorem s_L_least : mm_SpecL 2 12 kL_least 5 5 3 1 T_X9_least T_L_least := by
  rintro N K av h hK ⟨s, o, c, a, p0, p1, rfl, rfl, hc, h2⟩
  have go : ∀ (c' : CS) (v : Int), N (some (mI 0)) (hL s (mm_updL o 0 (Int64.ofInt v)) c') → K 8 [some (mR 0), some (mI p0), some (mI p1), some (mR 1029), none] [mI v, mI 0, mR 1029] (hL s o c') 2 12 := fun c' v hN => by
    refine hK [] _ _ _ _ _ _ ?_
    exact And.intro ⟨by decide, by decide⟩ hN
  refine ⟨[mR 0, mI p0, mI p1], [mI 0, mR 1029], [some (mR 0), some (mI p0), some (mI p1), some (mR 1029), none], fun r h' => K 8 [some (mR 0), some (mI p0), some (mI p1), some (mR 1029), none] (r.toList ++ [mI 0, mR 1029]) h' 2 12, rfl, by decide, rfl, ⟨RH s [eL 1 o], c, a, p0, p1, rfl, rfl, hc, ?_⟩, fun _ _ z => z, fun hk => ⟨rfl, hK [5] _ _ _ _ _ _ hk⟩⟩
  have ne2 : ¬ ((xLeast (aF a) p0 p1)).1 = 2 := by
    unfold xLeast
    repeat' split
    all_goals (intro z; cases z)
  exact ⟨fun e c' hc' => go c' _ (h2.1 e c' _ hc' (updL0 _ _)), fun e c' hc' => ⟨1, hc1, h2.2.1 e c' hc'⟩, fun e c' hc' => absurd e ne2⟩
theorem m_L_least (l : Launch) (hl : l.stackTraces = false) : mm_MetL l yL_least cL_least 5 (mm_hh 1 10 13 0) 8 2 12 T_L_least := mm_metL (i1 := 4) (i2 := 0) s_L_least (by decide) rfl kL_least_ok (by decide +kernel) (by decide +kernel) (by decide) (by decide +kernel) (by decide) ⟨by decide, Or.inl ⟨by decide +kernel, by decide +kernel, by decide +kernel⟩⟩ (fun z => absurd z (by decide)) (mm_cxv wi_X9_least (tb5 (i := 71) rfl rfl) (m_X9_least l hl) (by decide) (by decide) rfl)
def T_L_let : Tr := fun av h N _ => ∃ (s : RS) (o : Int → Int64) (c : CS) (a : AS) (p0 p1 : Int), av = [mR 0, mI p0, mI p1, mR 1029] ∧ h = hL s o c ∧ CR a c ∧ LPw s o ((xLet a p0 p1).1) ((xLet a p0 p1).2.1, Int64.ofInt (xLet a p0 p1).2.2) N
theorem s_L_let : mm_SpecL 2 12 kL_let 5 5 3 2 T_X9_let T_L_let := by
  rintro N K av h hK ⟨s, o, c, a, p0, p1, rfl, rfl, hc, h2⟩
  have go : ∀ (c' : CS) (v : Int), N (some (mI 0)) (hL s (mm_updL o 0 (Int64.ofInt v)) c') → K 8 [some (mR 0), some (mI p0), some (mI p1), some (mR 1029), none] [mI v, mI 0, mR 1029] (hL s o c') 2 12 := fun c' v hN => by
    refine hK [] _ _ _ _ _ _ ?_
    exact And.intro ⟨by decide, by decide⟩ hN
  refine ⟨[mR 0, mI p0, mI p1], [mI 0, mR 1029], [some (mR 0), some (mI p0), some (mI p1), some (mR 1029), none], fun r h' => K 8 [some (mR 0), some (mI p0), some (mI p1), some (mR 1029), none] (r.toList ++ [mI 0, mR 1029]) h' 2 12, rfl, by decide, rfl, ⟨RH s [eL 1 o], c, a, p0, p1, rfl, rfl, hc, ?_⟩, fun _ _ z => z, fun hk => ⟨rfl, hK [5] _ _ _ _ _ _ hk⟩⟩
  exact ⟨fun e c' hc' => go c' _ (h2.1 e c' _ hc' (updL0 _ _)), fun e c' hc' => ⟨1, hc2n, h2.2.1 e c' hc'⟩, fun e c' hc' => ⟨2, hc2i, h2.2.2 e c' hc'⟩⟩
theorem m_L_let (l : Launch) (hl : l.stackTraces = false) : mm_MetL l yL_let cL_let 5 (mm_hh 2 10 13 17) 8 2 12 T_L_let := mm_metL (i1 := 4) (i2 := 4) s_L_let (by decide) rfl kL_let_ok (by decide +kernel) (by decide +kernel) (by decide) (by decide +kernel) (by decide) ⟨by decide, Or.inl ⟨by decide +kernel, by decide +kernel, by decide +kernel⟩⟩ (fun _ => ⟨by decide, Or.inl ⟨by decide +kernel, by decide +kernel, by decide +kernel⟩⟩) (mm_cxv wi_X9_let (tb5 (i := 92) rfl rfl) (m_X9_let l hl) (by decide) (by decide) rfl)
def T_L_alike : Tr := fun av h N _ => ∃ (s : RS) (o : Int → Int64) (c : CS) (a : AS) (p0 : Int), av = [mR 0, mI p0, mR 1029] ∧ h = hL s o c ∧ CR a c ∧ LPw s o a ((xAlike a p0).1, Int64.ofInt (xAlike a p0).2) N
theorem s_L_alike : mm_SpecL 1 6 kL_alike 4 4 2 1 T_X9_alike T_L_alike := by
  rintro N K av h hK ⟨s, o, c, a, p0, rfl, rfl, hc, h2⟩
  have go : ∀ (c' : CS) (v : Int), N (some (mI 0)) (hL s (mm_updL o 0 (Int64.ofInt v)) c') → K 7 [some (mR 0), some (mI p0), some (mR 1029), none] [mI v, mI 0, mR 1029] (hL s o c') 1 6 := fun c' v hN => by
    refine hK [] _ _ _ _ _ _ ?_
    exact And.intro ⟨by decide, by decide⟩ hN
  refine ⟨[mR 0, mI p0], [mI 0, mR 1029], [some (mR 0), some (mI p0), some (mR 1029), none], fun r h' => K 7 [some (mR 0), some (mI p0), some (mR 1029), none] (r.toList ++ [mI 0, mR 1029]) h' 1 6, rfl, by decide, rfl, ⟨RH s [eL 1 o], c, a, p0, rfl, rfl, hc, ?_⟩, fun _ _ z => z, fun hk => ⟨rfl, hK [4] _ _ _ _ _ _ hk⟩⟩
  have ne2 : ¬ ((xAlike a p0)).1 = 2 := by
    unfold xAlike
    repeat' split
    all_goals (intro z; cases z)
  exact ⟨fun e c' hc' => go c' _ (h2.1 e c' _ hc' (updL0 _ _)), fun e c' hc' => ⟨1, hc1, h2.2.1 e c' hc'⟩, fun e c' hc' => absurd e ne2⟩
theorem m_L_alike (l : Launch) (hl : l.stackTraces = false) : mm_MetL l yL_alike cL_alike 4 (mm_hh 1 9 12 0) 8 1 6 T_L_alike := mm_metL (i1 := 3) (i2 := 0) s_L_alike (by decide) rfl kL_alike_ok (by decide +kernel) (by decide +kernel) (by decide) (by decide +kernel) (by decide) ⟨by decide, Or.inr ⟨3, rfl, by decide +kernel, by decide +kernel, by decide +kernel⟩⟩ (fun z => absurd z (by decide)) (mm_cxv wi_X9_alike (tb5 (i := 100) rfl rfl) (m_X9_alike l hl) (by decide) (by decide) rfl)
def T_L_mark : Tr := fun av h N _ => ∃ (s : RS) (o : Int → Int64) (c : CS) (a : AS) (p0 : Int), av = [mR 0, mI p0, mR 1029] ∧ h = hL s o c ∧ CR a c ∧ mm_rng p0 ∧ LPw s o ((xMark a p0).1) ((xMark a p0).2.1, Int64.ofInt (xMark a p0).2.2) N
theorem s_L_mark : mm_SpecL 1 6 kL_mark 4 4 2 1 T_X9_mark T_L_mark := by
  rintro N K av h hK ⟨s, o, c, a, p0, rfl, rfl, hc, hr, h2⟩
  have go : ∀ (c' : CS) (v : Int), N (some (mI 0)) (hL s (mm_updL o 0 (Int64.ofInt v)) c') → K 7 [some (mR 0), some (mI p0), some (mR 1029), none] [mI v, mI 0, mR 1029] (hL s o c') 1 6 := fun c' v hN => by
    refine hK [] _ _ _ _ _ _ ?_
    exact And.intro ⟨by decide, by decide⟩ hN
  refine ⟨[mR 0, mI p0], [mI 0, mR 1029], [some (mR 0), some (mI p0), some (mR 1029), none], fun r h' => K 7 [some (mR 0), some (mI p0), some (mR 1029), none] (r.toList ++ [mI 0, mR 1029]) h' 1 6, rfl, by decide, rfl, ⟨RH s [eL 1 o], c, a, p0, rfl, rfl, hc, hr, ?_⟩, fun _ _ z => z, fun hk => ⟨rfl, hK [4] _ _ _ _ _ _ hk⟩⟩
  have ne2 : ¬ ((xMark a p0).2).1 = 2 := by
    unfold xMark
    repeat' split
    all_goals (intro z; cases z)
  exact ⟨fun e c' hc' => go c' _ (h2.1 e c' _ hc' (updL0 _ _)), fun e c' hc' => ⟨1, hc1, h2.2.1 e c' hc'⟩, fun e c' hc' => absurd e ne2⟩
theorem m_L_mark (l : Launch) (hl : l.stackTraces = false) : mm_MetL l yL_mark cL_mark 4 (mm_hh 1 9 12 0) 8 1 6 T_L_mark := mm_metL (i1 := 3) (i2 := 0) s_L_mark (by decide) rfl kL_mark_ok (by decide +kernel) (by decide +kernel) (by decide) (by decide +kernel) (by decide) ⟨by decide, Or.inr ⟨3, rfl, by decide +kernel, by decide +kernel, by decide +kernel⟩⟩ (fun z => absurd z (by decide)) (mm_cxv wi_X9_mark (tb5 (i := 107) rfl rfl) (m_X9_mark l hl) (by decide) (by decide) rfl)
def T_L_differences : Tr := fun av h N _ => ∃ (s : RS) (o : Int → Int64) (c : CS) (a : AS) (p0 : Int), av = [mR 0, mI p0, mR 1029] ∧ h = hL s o c ∧ CR a c ∧ mm_rng p0 ∧ LPw s o a ((xDifferences (aF a) p0).1, Int64.ofInt (xDifferences (aF a) p0).2) N
theorem s_L_differences : mm_SpecL 1 6 kL_differences 4 4 2 1 T_X9_differences T_L_differences := by
  rintro N K av h hK ⟨s, o, c, a, p0, rfl, rfl, hc, hr, h2⟩
  have go : ∀ (c' : CS) (v : Int), N (some (mI 0)) (hL s (mm_updL o 0 (Int64.ofInt v)) c') → K 7 [some (mR 0), some (mI p0), some (mR 1029), none] [mI v, mI 0, mR 1029] (hL s o c') 1 6 := fun c' v hN => by
    refine hK [] _ _ _ _ _ _ ?_
    exact And.intro ⟨by decide, by decide⟩ hN
  refine ⟨[mR 0, mI p0], [mI 0, mR 1029], [some (mR 0), some (mI p0), some (mR 1029), none], fun r h' => K 7 [some (mR 0), some (mI p0), some (mR 1029), none] (r.toList ++ [mI 0, mR 1029]) h' 1 6, rfl, by decide, rfl, ⟨RH s [eL 1 o], c, a, p0, rfl, rfl, hc, hr, ?_⟩, fun _ _ z => z, fun hk => ⟨rfl, hK [4] _ _ _ _ _ _ hk⟩⟩
  have ne2 : ¬ ((xDifferences (aF a) p0)).1 = 2 := by
    unfold xDifferences
    repeat' split
    all_goals (intro z; cases z)
  exact ⟨fun e c' hc' => go c' _ (h2.1 e c' _ hc' (updL0 _ _)), fun e c' hc' => ⟨1, hc1, h2.2.1 e c' hc'⟩, fun e c' hc' => absurd e ne2⟩
theorem m_L_differences (l : Launch) (hl : l.stackTraces = false) : mm_MetL l yL_differences cL_differences 4 (mm_hh 1 9 12 0) 8 1 6 T_L_differences := mm_metL (i1 := 3) (i2 := 0) s_L_differences (by decide) rfl kL_differences_ok (by decide +kernel) (by decide +kernel) (by decide) (by decide +kernel) (by decide) ⟨by decide, Or.inr ⟨3, rfl, by decide +kernel, by decide +kernel, by decide +kernel⟩⟩ (fun z => absurd z (by decide)) (mm_cxv wi_X9_differences (tb5 (i := 125) rfl rfl) (m_X9_differences l hl) (by decide) (by decide) rfl)
def T_L_cyclotomic : Tr := fun av h N _ => ∃ (s : RS) (o : Int → Int64) (c : CS) (a : AS) (p0 p1 p2 : Int), av = [mR 0, mI p0, mI p1, mI p2, mR 1029] ∧ h = hL s o c ∧ CR a c ∧ LPw s o a ((xCyclotomic (aF a) p0 p1 p2).1, Int64.ofInt (xCyclotomic (aF a) p0 p1 p2).2) N
theorem s_L_cyclotomic : mm_SpecL 1 6 kL_cyclotomic 6 7 4 1 T_X9_cyclotomic T_L_cyclotomic := by
  rintro N K av h hK ⟨s, o, c, a, p0, p1, p2, rfl, rfl, hc, h2⟩
  have go : ∀ (c' : CS) (v : Int), N (some (mI 0)) (hL s (mm_updL o 0 (Int64.ofInt v)) c') → K 10 [some (mR 0), some (mI p0), some (mI p1), some (mI p2), some (mR 1029), none] [mI v, mI 0, mR 1029] (hL s o c') 1 6 := fun c' v hN => by
    refine hK [] _ _ _ _ _ _ ?_
    exact And.intro ⟨by decide, by decide⟩ hN
  refine ⟨[mR 0, mI p0, mI p1, mI p2], [mI 0, mR 1029], [some (mR 0), some (mI p0), some (mI p1), some (mI p2), some (mR 1029), none], fun r h' => K 10 [some (mR 0), some (mI p0), some (mI p1), some (mI p2), some (mR 1029), none] (r.toList ++ [mI 0, mR 1029]) h' 1 6, rfl, by decide, rfl, ⟨RH s [eL 1 o], c, a, p0, p1, p2, rfl, rfl, hc, ?_⟩, fun _ _ z => z, fun hk => ⟨rfl, hK [7] _ _ _ _ _ _ hk⟩⟩
  have ne2 : ¬ ((xCyclotomic (aF a) p0 p1 p2)).1 = 2 := by
    unfold xCyclotomic
    repeat' split
    all_goals (intro z; cases z)
  exact ⟨fun e c' hc' => go c' _ (h2.1 e c' _ hc' (updL0 _ _)), fun e c' hc' => ⟨1, hc1, h2.2.1 e c' hc'⟩, fun e c' hc' => absurd e ne2⟩
theorem m_L_cyclotomic (l : Launch) (hl : l.stackTraces = false) : mm_MetL l yL_cyclotomic cL_cyclotomic 6 (mm_hh 1 12 15 0) 7 1 6 T_L_cyclotomic := mm_metL (i1 := 5) (i2 := 0) s_L_cyclotomic (by decide) rfl kL_cyclotomic_ok (by decide +kernel) (by decide +kernel) (by decide) (by decide +kernel) (by decide) ⟨by decide, Or.inl ⟨by decide +kernel, by decide +kernel, by decide +kernel⟩⟩ (fun z => absurd z (by decide)) (mm_cxv wi_X9_cyclotomic (tb5 (i := 138) rfl rfl) (m_X9_cyclotomic l hl) (by decide) (by decide) rfl)
def T_L_say : Tr := fun av h N _ => ∃ (s : RS) (o : Int → Int64) (c : CS) (a : AS) (p0 : Int), av = [mR 0, mI p0, mR 1029] ∧ h = hL s o c ∧ CR a c ∧ LPw s o ((xSay a p0).1) ((xSay a p0).2.1, Int64.ofInt (xSay a p0).2.2) N
theorem s_L_say : mm_SpecL 1 6 kL_say 4 4 2 1 T_X9_say T_L_say := by
  rintro N K av h hK ⟨s, o, c, a, p0, rfl, rfl, hc, h2⟩
  have go : ∀ (c' : CS) (v : Int), N (some (mI 0)) (hL s (mm_updL o 0 (Int64.ofInt v)) c') → K 7 [some (mR 0), some (mI p0), some (mR 1029), none] [mI v, mI 0, mR 1029] (hL s o c') 1 6 := fun c' v hN => by
    refine hK [] _ _ _ _ _ _ ?_
    exact And.intro ⟨by decide, by decide⟩ hN
  refine ⟨[mR 0, mI p0], [mI 0, mR 1029], [some (mR 0), some (mI p0), some (mR 1029), none], fun r h' => K 7 [some (mR 0), some (mI p0), some (mR 1029), none] (r.toList ++ [mI 0, mR 1029]) h' 1 6, rfl, by decide, rfl, ⟨RH s [eL 1 o], c, a, p0, rfl, rfl, hc, ?_⟩, fun _ _ z => z, fun hk => ⟨rfl, hK [4] _ _ _ _ _ _ hk⟩⟩
  have ne2 : ¬ ((xSay a p0).2).1 = 2 := by
    unfold xSay
    repeat' split
    all_goals (intro z; cases z)
  exact ⟨fun e c' hc' => go c' _ (h2.1 e c' _ hc' (updL0 _ _)), fun e c' hc' => ⟨1, hc1, h2.2.1 e c' hc'⟩, fun e c' hc' => absurd e ne2⟩
theorem m_L_say (l : Launch) (hl : l.stackTraces = false) : mm_MetL l yL_say cL_say 4 (mm_hh 1 9 12 0) 8 1 6 T_L_say := mm_metL (i1 := 3) (i2 := 0) s_L_say (by decide) rfl kL_say_ok (by decide +kernel) (by decide +kernel) (by decide) (by decide +kernel) (by decide) ⟨by decide, Or.inr ⟨3, rfl, by decide +kernel, by decide +kernel, by decide +kernel⟩⟩ (fun z => absurd z (by decide)) (mm_cxv wi_X9_say (tb5 (i := 151) rfl rfl) (m_X9_say l hl) (by decide) (by decide) rfl)
