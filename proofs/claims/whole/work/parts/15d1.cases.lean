/-! the law's body: cases 7 to 13 -/
def kW_7 : MC := [(551, .aload_n 1, 1), (552, .aload_n 0, 1), (553, .iload 4, 2), (555, .iconst 1, 1), (556, .iadd, 1), (557, .iaload, 1), (558, .aload_n 3, 1), (559, .invokestatic 123, 3), (562, .istore 5, 2), (564, .aload_n 2, 1), (565, .aload_n 0, 1), (566, .iload 4, 2), (568, .iconst 1, 1), (569, .iadd, 1), (570, .iaload, 1), (571, .invokevirtual 125, 3), (574, .istore 6, 2), (576, .aload_n 2, 1), (577, .invokevirtual 104, 3), (580, .iload 5, 2), (582, .if_icmp .eq 5, 3), (585, .iconst 0, 1), (586, .ireturn, 1), (587, .iload 5, 2), (589, .ifCond .ne 15, 3), (592, .aload_n 3, 1), (593, .iconst 0, 1), (594, .laload, 1), (595, .iload 6, 2), (597, .i2l, 1), (598, .lcmp, 1), (599, .ifCond .eq 5, 3), (602, .iconst 0, 1), (603, .ireturn, 1), (604, .goto 1348, 3)]
theorem kW_7_ok : ∀ q ∈ kW_7, decode code q.1 = .ok (q.2.1, q.2.2) := by decide +kernel
theorem wl_trace : mm_Yl yL_trace cL_trace 4 (mm_hh 1 9 12 0) 3 := ⟨tb4 (i := 133) rfl rfl, tb1 (i := 0) rfl rfl, ⟨by decide, by decide, by decide +kernel⟩, tb4 (i := 132) rfl rfl⟩
abbrev ctW_7 : List (Nat × CE) := [(123, (3, 1, 6, false, (1, 0), T_L_trace)), (125, (2, 0, 0, false, (0, 10), T_X10_trace)), (104, (1, 0, 0, false, (0, 10), T_X10_thrown))]
theorem cW_7 (l : Launch) (hl : l.stackTraces = false) : ∀ (i : Nat) (q : CE), mm_look ctW_7 i = some q → mm_CA l RL 60 i q := mm_ca_cons (Or.inr (Or.inl (mm_cls wl_trace (tb4 (i := 131) rfl rfl) (m_L_trace l hl) (by decide) (by decide) rfl))) (mm_ca_cons (Or.inl (mm_cbv wi_X10_trace (tb7 (i := 155) rfl rfl) (m_X10_trace l) (by decide) (by decide) rfl)) (mm_ca_cons (Or.inl (mm_cbv wi_X10_thrown (tb6 (i := 161) rfl rfl) (m_X10_thrown l) (by decide) (by decide) rfl)) (mm_ca_nil)))
set_option maxHeartbeats 4000000 in
theorem lc_7 {K : Nat → LV → List MV → HP → Nat → Nat → Prop} {L : Nat} {xs : Nat → Int32} (hL3 : L ≤ 3072) {i : Nat} (hi : i + 6 ≤ L) (hK : mm_Cl (eLaw ctW_7 [] 1 6 [(2002, (L, scr xs))] true) kW_7 lawN (fun _ _ => False) K) {a : AS} {s : RS} {o : Int → Int64} {c : CS} (hc : CR a c) (hr : RR a s) (hx : ∀ (a' : AS) (s' : RS) (o' : Int → Int64) (c' : CS) (o5 o6 o7 : Option MV), CR a' c' → RR a' s' → K 1952 [some (mR 2002), some (mR 0), some (mR 1000), some (mR 1029), some (mI (i : Int)), o5, o6, o7] [] (hL s' o' c') 1 6) (o5 o6 o7 : Option MV) : K 551 [some (mR 2002), some (mR 0), some (mR 1000), some (mR 1029), some (mI (i : Int)), o5, o6, o7] [] (hL s o c) 0 0 := by
  have hs : ∀ k : Int, mm_rng (scr xs k) := fun k => i32_rng _
  have tail : ∀ (k : Int) (c' : CS) (o' : Int → Int64), CR a c' → ((((xTrace (aF a) (scr xs ((i : Int) + 1)))).1 : Nat) : Int) = k → (((xTrace (aF a) (scr xs ((i : Int) + 1)))).1 = 0 → o' 0 = Int64.ofInt ((xTrace (aF a) (scr xs ((i : Int) + 1)))).2) → K 562 [some (mR 2002), some (mR 0), some (mR 1000), some (mR 1029), some (mI (i : Int)), o5, o6, o7] [mI k] (hL s o' c') 1 6 := by
    intro k c' o' hc' hk ho
    refine hK [1952] _ _ _ _ _ _ ?_
    refine And.intro (rng_of (by omega) (by omega)) ?_
    refine And.intro ⟨by omega, by omega⟩ ?_
    refine ⟨(none, CH c', [eL 1 o'], 24, c'.2.2.2.1), s, a, _, rfl, rfl, hr, hs _, fun s' hr' hcode => ?_⟩
    refine ⟨(none, CH c', [eL 1 o'], 24, c'.2.2.2.1), s', rfl, rfl, ?_⟩
    conv => whnf
    rw [hcode]
    refine And.intro (fun _ => ?_) (fun q => absurd hk q)
    refine And.intro (fun q => ?_) (fun q => ?_)
    · exact hx a s' o' c' _ _ _ hc' hr'
    · refine And.intro ⟨by decide, by decide⟩ ?_
      refine And.intro (fun _ => ?_) (fun q2 => absurd ((cmp_eq _ _).mpr (ho (by omega))) q2)
      exact hx a s' o' c' _ _ _ hc' hr'
  refine hK [562] _ _ _ _ _ _ ?_
  refine And.intro (rng_of (by omega) (by omega)) ?_
  refine And.intro ⟨by omega, by omega⟩ ?_
  refine ⟨s, o, c, a, _, rfl, rfl, hc, ?_⟩
  exact ⟨fun e c' o' hc' ho => tail 0 c' o' hc' (congrArg Int.ofNat e) (fun _ => ho), fun e c' hc' => tail 1 c' o hc' (congrArg Int.ofNat e) (fun z => absurd (e.symm.trans z) (by decide)), fun e c' hc' => tail 2 c' o hc' (congrArg Int.ofNat e) (fun z => absurd (e.symm.trans z) (by decide))⟩
def kW_8 : MC := [(607, .aload_n 1, 1), (608, .aload_n 0, 1), (609, .iload 4, 2), (611, .iconst 1, 1), (612, .iadd, 1), (613, .iaload, 1), (614, .aload_n 0, 1), (615, .iload 4, 2), (617, .iconst 2, 1), (618, .iadd, 1), (619, .iaload, 1), (620, .aload_n 3, 1), (621, .invokestatic 126, 3), (624, .istore 5, 2), (626, .aload_n 2, 1), (627, .aload_n 0, 1), (628, .iload 4, 2), (630, .iconst 1, 1), (631, .iadd, 1), (632, .iaload, 1), (633, .aload_n 0, 1), (634, .iload 4, 2), (636, .iconst 2, 1), (637, .iadd, 1), (638, .iaload, 1), (639, .invokevirtual 128, 3), (642, .istore 6, 2), (644, .aload_n 2, 1), (645, .invokevirtual 104, 3), (648, .iload 5, 2), (650, .if_icmp .eq 5, 3), (653, .iconst 0, 1), (654, .ireturn, 1), (655, .iload 5, 2), (657, .ifCond .ne 15, 3), (660, .aload_n 3, 1), (661, .iconst 0, 1), (662, .laload, 1), (663, .iload 6, 2), (665, .i2l, 1), (666, .lcmp, 1), (667, .ifCond .eq 5, 3), (670, .iconst 0, 1), (671, .ireturn, 1), (672, .goto 1280, 3)]
theorem kW_8_ok : ∀ q ∈ kW_8, decode code q.1 = .ok (q.2.1, q.2.2) := by decide +kernel
theorem wl_character : mm_Yl yL_character cL_character 5 (mm_hh 1 10 13 0) 4 := ⟨tb4 (i := 141) rfl rfl, tb1 (i := 0) rfl rfl, ⟨by decide, by decide, by decide +kernel⟩, tb4 (i := 140) rfl rfl⟩
abbrev ctW_8 : List (Nat × CE) := [(126, (4, 2, 12, false, (1, 0), T_L_character)), (128, (3, 0, 0, false, (0, 10), T_X10_character)), (104, (1, 0, 0, false, (0, 10), T_X10_thrown))]
theorem cW_8 (l : Launch) (hl : l.stackTraces = false) : ∀ (i : Nat) (q : CE), mm_look ctW_8 i = some q → mm_CA l RL 60 i q := mm_ca_cons (Or.inr (Or.inl (mm_cls wl_character (tb4 (i := 139) rfl rfl) (m_L_character l hl) (by decide) (by decide) rfl))) (mm_ca_cons (Or.inl (mm_cbv wi_X10_character (tb7 (i := 159) rfl rfl) (m_X10_character l) (by decide) (by decide) rfl)) (mm_ca_cons (Or.inl (mm_cbv wi_X10_thrown (tb6 (i := 161) rfl rfl) (m_X10_thrown l) (by decide) (by decide) rfl)) (mm_ca_nil)))
set_option maxHeartbeats 4000000 in
theorem lc_8 {K : Nat → LV → List MV → HP → Nat → Nat → Prop} {L : Nat} {xs : Nat → Int32} (hL3 : L ≤ 3072) {i : Nat} (hi : i + 6 ≤ L) (hK : mm_Cl (eLaw ctW_8 [] 2 12 [(2002, (L, scr xs))] true) kW_8 lawN (fun _ _ => False) K) {a : AS} {s : RS} {o : Int → Int64} {c : CS} (hc : CR a c) (hr : RR a s) (hx : ∀ (a' : AS) (s' : RS) (o' : Int → Int64) (c' : CS) (o5 o6 o7 : Option MV), CR a' c' → RR a' s' → K 1952 [some (mR 2002), some (mR 0), some (mR 1000), some (mR 1029), some (mI (i : Int)), o5, o6, o7] [] (hL s' o' c') 2 12) (o5 o6 o7 : Option MV) : K 607 [some (mR 2002), some (mR 0), some (mR 1000), some (mR 1029), some (mI (i : Int)), o5, o6, o7] [] (hL s o c) 0 0 := by
  have hs : ∀ k : Int, mm_rng (scr xs k) := fun k => i32_rng _
  have tail : ∀ (k : Int) (c' : CS) (o' : Int → Int64), CR a c' → ((((xCharacter (aF a) (scr xs ((i : Int) + 1)) (scr xs ((i : Int) + 2)))).1 : Nat) : Int) = k → (((xCharacter (aF a) (scr xs ((i : Int) + 1)) (scr xs ((i : Int) + 2)))).1 = 0 → o' 0 = Int64.ofInt ((xCharacter (aF a) (scr xs ((i : Int) + 1)) (scr xs ((i : Int) + 2)))).2) → K 624 [some (mR 2002), some (mR 0), some (mR 1000), some (mR 1029), some (mI (i : Int)), o5, o6, o7] [mI k] (hL s o' c') 2 12 := by
    intro k c' o' hc' hk ho
    refine hK [1952] _ _ _ _ _ _ ?_
    refine And.intro (rng_of (by omega) (by omega)) ?_
    refine And.intro ⟨by omega, by omega⟩ ?_
    refine And.intro (rng_of (by omega) (by omega)) ?_
    refine And.intro ⟨by omega, by omega⟩ ?_
    refine ⟨(none, CH c', [eL 1 o'], 24, c'.2.2.2.1), s, a, _, _, rfl, rfl, hr, hs _, hs _, fun s' hr' hcode => ?_⟩
    refine ⟨(none, CH c', [eL 1 o'], 24, c'.2.2.2.1), s', rfl, rfl, ?_⟩
    conv => whnf
    rw [hcode]
    refine And.intro (fun _ => ?_) (fun q => absurd hk q)
    refine And.intro (fun q => ?_) (fun q => ?_)
    · exact hx a s' o' c' _ _ _ hc' hr'
    · refine And.intro ⟨by decide, by decide⟩ ?_
      refine And.intro (fun _ => ?_) (fun q2 => absurd ((cmp_eq _ _).mpr (ho (by omega))) q2)
      exact hx a s' o' c' _ _ _ hc' hr'
  refine hK [624] _ _ _ _ _ _ ?_
  refine And.intro (rng_of (by omega) (by omega)) ?_
  refine And.intro ⟨by omega, by omega⟩ ?_
  refine And.intro (rng_of (by omega) (by omega)) ?_
  refine And.intro ⟨by omega, by omega⟩ ?_
  refine ⟨s, o, c, a, _, _, rfl, rfl, hc, ?_⟩
  exact ⟨fun e c' o' hc' ho => tail 0 c' o' hc' (congrArg Int.ofNat e) (fun _ => ho), fun e c' hc' => tail 1 c' o hc' (congrArg Int.ofNat e) (fun z => absurd (e.symm.trans z) (by decide)), fun e c' hc' => tail 2 c' o hc' (congrArg Int.ofNat e) (fun z => absurd (e.symm.trans z) (by decide))⟩
def kW_9 : MC := [(675, .aload_n 1, 1), (676, .aload_n 0, 1), (677, .iload 4, 2), (679, .iconst 1, 1), (680, .iadd, 1), (681, .iaload, 1), (682, .aload_n 3, 1), (683, .invokestatic 129, 3), (686, .istore 5, 2), (688, .aload_n 2, 1), (689, .aload_n 0, 1), (690, .iload 4, 2), (692, .iconst 1, 1), (693, .iadd, 1), (694, .iaload, 1), (695, .invokevirtual 131, 3), (698, .istore 6, 2), (700, .aload_n 2, 1), (701, .invokevirtual 104, 3), (704, .iload 5, 2), (706, .if_icmp .eq 5, 3), (709, .iconst 0, 1), (710, .ireturn, 1), (711, .iload 5, 2), (713, .ifCond .ne 15, 3), (716, .aload_n 3, 1), (717, .iconst 0, 1), (718, .laload, 1), (719, .iload 6, 2), (721, .i2l, 1), (722, .lcmp, 1), (723, .ifCond .eq 5, 3), (726, .iconst 0, 1), (727, .ireturn, 1), (728, .goto 1224, 3)]
theorem kW_9_ok : ∀ q ∈ kW_9, decode code q.1 = .ok (q.2.1, q.2.2) := by decide +kernel
theorem wl_order : mm_Yl yL_order cL_order 4 (mm_hh 1 9 12 0) 3 := ⟨tb4 (i := 154) rfl rfl, tb1 (i := 0) rfl rfl, ⟨by decide, by decide, by decide +kernel⟩, tb4 (i := 153) rfl rfl⟩
abbrev ctW_9 : List (Nat × CE) := [(129, (3, 1, 6, false, (1, 0), T_L_order)), (131, (2, 0, 0, false, (0, 10), T_X10_order)), (104, (1, 0, 0, false, (0, 10), T_X10_thrown))]
theorem cW_9 (l : Launch) (hl : l.stackTraces = false) : ∀ (i : Nat) (q : CE), mm_look ctW_9 i = some q → mm_CA l RL 60 i q := mm_ca_cons (Or.inr (Or.inl (mm_cls wl_order (tb4 (i := 152) rfl rfl) (m_L_order l hl) (by decide) (by decide) rfl))) (mm_ca_cons (Or.inl (mm_cbv wi_X10_order (tb7 (i := 167) rfl rfl) (m_X10_order l) (by decide) (by decide) rfl)) (mm_ca_cons (Or.inl (mm_cbv wi_X10_thrown (tb6 (i := 161) rfl rfl) (m_X10_thrown l) (by decide) (by decide) rfl)) (mm_ca_nil)))
set_option maxHeartbeats 4000000 in
theorem lc_9 {K : Nat → LV → List MV → HP → Nat → Nat → Prop} {L : Nat} {xs : Nat → Int32} (hL3 : L ≤ 3072) {i : Nat} (hi : i + 6 ≤ L) (hK : mm_Cl (eLaw ctW_9 [] 1 6 [(2002, (L, scr xs))] true) kW_9 lawN (fun _ _ => False) K) {a : AS} {s : RS} {o : Int → Int64} {c : CS} (hc : CR a c) (hr : RR a s) (hx : ∀ (a' : AS) (s' : RS) (o' : Int → Int64) (c' : CS) (o5 o6 o7 : Option MV), CR a' c' → RR a' s' → K 1952 [some (mR 2002), some (mR 0), some (mR 1000), some (mR 1029), some (mI (i : Int)), o5, o6, o7] [] (hL s' o' c') 1 6) (o5 o6 o7 : Option MV) : K 675 [some (mR 2002), some (mR 0), some (mR 1000), some (mR 1029), some (mI (i : Int)), o5, o6, o7] [] (hL s o c) 0 0 := by
  have hs : ∀ k : Int, mm_rng (scr xs k) := fun k => i32_rng _
  have tail : ∀ (k : Int) (c' : CS) (o' : Int → Int64), CR a c' → ((((xOrder (aF a) (scr xs ((i : Int) + 1)))).1 : Nat) : Int) = k → (((xOrder (aF a) (scr xs ((i : Int) + 1)))).1 = 0 → o' 0 = Int64.ofInt ((xOrder (aF a) (scr xs ((i : Int) + 1)))).2) → K 686 [some (mR 2002), some (mR 0), some (mR 1000), some (mR 1029), some (mI (i : Int)), o5, o6, o7] [mI k] (hL s o' c') 1 6 := by
    intro k c' o' hc' hk ho
    refine hK [1952] _ _ _ _ _ _ ?_
    refine And.intro (rng_of (by omega) (by omega)) ?_
    refine And.intro ⟨by omega, by omega⟩ ?_
    refine ⟨(none, CH c', [eL 1 o'], 24, c'.2.2.2.1), s, a, _, rfl, rfl, hr, hs _, fun s' hr' hcode => ?_⟩
    refine ⟨(none, CH c', [eL 1 o'], 24, c'.2.2.2.1), s', rfl, rfl, ?_⟩
    conv => whnf
    rw [hcode]
    refine And.intro (fun _ => ?_) (fun q => absurd hk q)
    refine And.intro (fun q => ?_) (fun q => ?_)
    · exact hx a s' o' c' _ _ _ hc' hr'
    · refine And.intro ⟨by decide, by decide⟩ ?_
      refine And.intro (fun _ => ?_) (fun q2 => absurd ((cmp_eq _ _).mpr (ho (by omega))) q2)
      exact hx a s' o' c' _ _ _ hc' hr'
  refine hK [686] _ _ _ _ _ _ ?_
  refine And.intro (rng_of (by omega) (by omega)) ?_
  refine And.intro ⟨by omega, by omega⟩ ?_
  refine ⟨s, o, c, a, _, rfl, rfl, hc, ?_⟩
  exact ⟨fun e c' o' hc' ho => tail 0 c' o' hc' (congrArg Int.ofNat e) (fun _ => ho), fun e c' hc' => tail 1 c' o hc' (congrArg Int.ofNat e) (fun z => absurd (e.symm.trans z) (by decide)), fun e c' hc' => tail 2 c' o hc' (congrArg Int.ofNat e) (fun z => absurd (e.symm.trans z) (by decide))⟩
def kW_10 : MC := [(731, .aload_n 1, 1), (732, .aload_n 0, 1), (733, .iload 4, 2), (735, .iconst 1, 1), (736, .iadd, 1), (737, .iaload, 1), (738, .aload_n 0, 1), (739, .iload 4, 2), (741, .iconst 2, 1), (742, .iadd, 1), (743, .iaload, 1), (744, .aload_n 3, 1), (745, .invokestatic 132, 3), (748, .istore 5, 2), (750, .aload_n 2, 1), (751, .aload_n 0, 1), (752, .iload 4, 2), (754, .iconst 1, 1), (755, .iadd, 1), (756, .iaload, 1), (757, .aload_n 0, 1), (758, .iload 4, 2), (760, .iconst 2, 1), (761, .iadd, 1), (762, .iaload, 1), (763, .invokevirtual 134, 3), (766, .istore 6, 2), (768, .aload_n 2, 1), (769, .invokevirtual 104, 3), (772, .iload 5, 2), (774, .if_icmp .eq 5, 3), (777, .iconst 0, 1), (778, .ireturn, 1), (779, .iload 5, 2), (781, .ifCond .ne 15, 3), (784, .aload_n 3, 1), (785, .iconst 0, 1), (786, .laload, 1), (787, .iload 6, 2), (789, .i2l, 1), (790, .lcmp, 1), (791, .ifCond .eq 5, 3), (794, .iconst 0, 1), (795, .ireturn, 1), (796, .goto 1156, 3)]
theorem kW_10_ok : ∀ q ∈ kW_10, decode code q.1 = .ok (q.2.1, q.2.2) := by decide +kernel
theorem wl_coefficient : mm_Yl yL_coefficient cL_coefficient 5 (mm_hh 1 10 13 0) 4 := ⟨tb4 (i := 161) rfl rfl, tb1 (i := 0) rfl rfl, ⟨by decide, by decide, by decide +kernel⟩, tb4 (i := 160) rfl rfl⟩
abbrev ctW_10 : List (Nat × CE) := [(132, (4, 2, 12, false, (1, 0), T_L_coefficient)), (134, (3, 0, 0, false, (0, 10), T_X10_coefficient)), (104, (1, 0, 0, false, (0, 10), T_X10_thrown))]
theorem cW_10 (l : Launch) (hl : l.stackTraces = false) : ∀ (i : Nat) (q : CE), mm_look ctW_10 i = some q → mm_CA l RL 60 i q := mm_ca_cons (Or.inr (Or.inl (mm_cls wl_coefficient (tb4 (i := 159) rfl rfl) (m_L_coefficient l hl) (by decide) (by decide) rfl))) (mm_ca_cons (Or.inl (mm_cbv wi_X10_coefficient (tb7 (i := 171) rfl rfl) (m_X10_coefficient l) (by decide) (by decide) rfl)) (mm_ca_cons (Or.inl (mm_cbv wi_X10_thrown (tb6 (i := 161) rfl rfl) (m_X10_thrown l) (by decide) (by decide) rfl)) (mm_ca_nil)))
set_option maxHeartbeats 4000000 in
theorem lc_10 {K : Nat → LV → List MV → HP → Nat → Nat → Prop} {L : Nat} {xs : Nat → Int32} (hL3 : L ≤ 3072) {i : Nat} (hi : i + 6 ≤ L) (hK : mm_Cl (eLaw ctW_10 [] 2 12 [(2002, (L, scr xs))] true) kW_10 lawN (fun _ _ => False) K) {a : AS} {s : RS} {o : Int → Int64} {c : CS} (hc : CR a c) (hr : RR a s) (hx : ∀ (a' : AS) (s' : RS) (o' : Int → Int64) (c' : CS) (o5 o6 o7 : Option MV), CR a' c' → RR a' s' → K 1952 [some (mR 2002), some (mR 0), some (mR 1000), some (mR 1029), some (mI (i : Int)), o5, o6, o7] [] (hL s' o' c') 2 12) (o5 o6 o7 : Option MV) : K 731 [some (mR 2002), some (mR 0), some (mR 1000), some (mR 1029), some (mI (i : Int)), o5, o6, o7] [] (hL s o c) 0 0 := by
  have hs : ∀ k : Int, mm_rng (scr xs k) := fun k => i32_rng _
  have tail : ∀ (k : Int) (c' : CS) (o' : Int → Int64), CR a c' → ((((xCoefficient a (scr xs ((i : Int) + 1)) (scr xs ((i : Int) + 2)))).1 : Nat) : Int) = k → (((xCoefficient a (scr xs ((i : Int) + 1)) (scr xs ((i : Int) + 2)))).1 = 0 → o' 0 = Int64.ofInt ((xCoefficient a (scr xs ((i : Int) + 1)) (scr xs ((i : Int) + 2)))).2) → K 748 [some (mR 2002), some (mR 0), some (mR 1000), some (mR 1029), some (mI (i : Int)), o5, o6, o7] [mI k] (hL s o' c') 2 12 := by
    intro k c' o' hc' hk ho
    refine hK [1952] _ _ _ _ _ _ ?_
    refine And.intro (rng_of (by omega) (by omega)) ?_
    refine And.intro ⟨by omega, by omega⟩ ?_
    refine And.intro (rng_of (by omega) (by omega)) ?_
    refine And.intro ⟨by omega, by omega⟩ ?_
    refine ⟨(none, CH c', [eL 1 o'], 24, c'.2.2.2.1), s, a, _, _, rfl, rfl, hr, hs _, hs _, fun s' hr' hcode => ?_⟩
    refine ⟨(none, CH c', [eL 1 o'], 24, c'.2.2.2.1), s', rfl, rfl, ?_⟩
    conv => whnf
    rw [hcode]
    refine And.intro (fun _ => ?_) (fun q => absurd hk q)
    refine And.intro (fun q => ?_) (fun q => ?_)
    · exact hx a s' o' c' _ _ _ hc' hr'
    · refine And.intro ⟨by decide, by decide⟩ ?_
      refine And.intro (fun _ => ?_) (fun q2 => absurd ((cmp_eq _ _).mpr (ho (by omega))) q2)
      exact hx a s' o' c' _ _ _ hc' hr'
  refine hK [748] _ _ _ _ _ _ ?_
  refine And.intro (rng_of (by omega) (by omega)) ?_
  refine And.intro ⟨by omega, by omega⟩ ?_
  refine And.intro (rng_of (by omega) (by omega)) ?_
  refine And.intro ⟨by omega, by omega⟩ ?_
  refine ⟨s, o, c, a, _, _, rfl, rfl, hc, ?_⟩
  exact ⟨fun e c' o' hc' ho => tail 0 c' o' hc' (congrArg Int.ofNat e) (fun _ => ho), fun e c' hc' => tail 1 c' o hc' (congrArg Int.ofNat e) (fun z => absurd (e.symm.trans z) (by decide)), fun e c' hc' => tail 2 c' o hc' (congrArg Int.ofNat e) (fun z => absurd (e.symm.trans z) (by decide))⟩
def kW_11 : MC := [(799, .aload_n 1, 1), (800, .aload_n 0, 1), (801, .iload 4, 2), (803, .iconst 1, 1), (804, .iadd, 1), (805, .iaload, 1), (806, .aload_n 0, 1), (807, .iload 4, 2), (809, .iconst 2, 1), (810, .iadd, 1), (811, .iaload, 1), (812, .aload_n 3, 1), (813, .invokestatic 135, 3), (816, .istore 5, 2), (818, .aload_n 2, 1), (819, .aload_n 0, 1), (820, .iload 4, 2), (822, .iconst 1, 1), (823, .iadd, 1), (824, .iaload, 1), (825, .aload_n 0, 1), (826, .iload 4, 2), (828, .iconst 2, 1), (829, .iadd, 1), (830, .iaload, 1), (831, .invokevirtual 137, 3), (834, .lstore 6, 2), (836, .aload_n 2, 1), (837, .invokevirtual 104, 3), (840, .iload 5, 2), (842, .if_icmp .eq 5, 3), (845, .iconst 0, 1), (846, .ireturn, 1), (847, .iload 5, 2), (849, .ifCond .ne 14, 3), (852, .aload_n 3, 1), (853, .iconst 0, 1), (854, .laload, 1), (855, .lload 6, 2), (857, .lcmp, 1), (858, .ifCond .eq 5, 3), (861, .iconst 0, 1), (862, .ireturn, 1), (863, .goto 1089, 3)]
theorem kW_11_ok : ∀ q ∈ kW_11, decode code q.1 = .ok (q.2.1, q.2.2) := by decide +kernel
theorem wl_of : mm_Yl yL_of cL_of 5 (mm_hh 1 9 12 0) 4 := ⟨tb4 (i := 174) rfl rfl, tb1 (i := 0) rfl rfl, ⟨by decide, by decide, by decide +kernel⟩, tb4 (i := 173) rfl rfl⟩
abbrev ctW_11 : List (Nat × CE) := [(135, (4, 2, 12, false, (1, 0), T_L_of)), (137, (3, 0, 0, false, (0, 10), T_X10_of)), (104, (1, 0, 0, false, (0, 10), T_X10_thrown))]
theorem cW_11 (l : Launch) (hl : l.stackTraces = false) : ∀ (i : Nat) (q : CE), mm_look ctW_11 i = some q → mm_CA l RL 60 i q := mm_ca_cons (Or.inr (Or.inl (mm_cls wl_of (tb4 (i := 172) rfl rfl) (m_L_of l hl) (by decide) (by decide) rfl))) (mm_ca_cons (Or.inl (mm_cbv wi_X10_of (tb7 (i := 175) rfl rfl) (m_X10_of l) (by decide) (by decide) rfl)) (mm_ca_cons (Or.inl (mm_cbv wi_X10_thrown (tb6 (i := 161) rfl rfl) (m_X10_thrown l) (by decide) (by decide) rfl)) (mm_ca_nil)))
set_option maxHeartbeats 4000000 in
theorem lc_11 {K : Nat → LV → List MV → HP → Nat → Nat → Prop} {L : Nat} {xs : Nat → Int32} (hL3 : L ≤ 3072) {i : Nat} (hi : i + 6 ≤ L) (hK : mm_Cl (eLaw ctW_11 [] 2 12 [(2002, (L, scr xs))] true) kW_11 lawN (fun _ _ => False) K) {a : AS} {s : RS} {o : Int → Int64} {c : CS} (hc : CR a c) (hr : RR a s) (hx : ∀ (a' : AS) (s' : RS) (o' : Int → Int64) (c' : CS) (o5 o6 o7 : Option MV), CR a' c' → RR a' s' → K 1952 [some (mR 2002), some (mR 0), some (mR 1000), some (mR 1029), some (mI (i : Int)), o5, o6, o7] [] (hL s' o' c') 2 12) (o5 o6 o7 : Option MV) : K 799 [some (mR 2002), some (mR 0), some (mR 1000), some (mR 1029), some (mI (i : Int)), o5, o6, o7] [] (hL s o c) 0 0 := by
  have hs : ∀ k : Int, mm_rng (scr xs k) := fun k => i32_rng _
  have tail : ∀ (k : Int) (c' : CS) (o' : Int → Int64), CR a c' → ((((xOf a (scr xs ((i : Int) + 1)) (scr xs ((i : Int) + 2)))).1 : Nat) : Int) = k → (((xOf a (scr xs ((i : Int) + 1)) (scr xs ((i : Int) + 2)))).1 = 0 → o' 0 = ((xOf a (scr xs ((i : Int) + 1)) (scr xs ((i : Int) + 2)))).2) → K 816 [some (mR 2002), some (mR 0), some (mR 1000), some (mR 1029), some (mI (i : Int)), o5, o6, o7] [mI k] (hL s o' c') 2 12 := by
    intro k c' o' hc' hk ho
    refine hK [1952] _ _ _ _ _ _ ?_
    refine And.intro (rng_of (by omega) (by omega)) ?_
    refine And.intro ⟨by omega, by omega⟩ ?_
    refine And.intro (rng_of (by omega) (by omega)) ?_
    refine And.intro ⟨by omega, by omega⟩ ?_
    refine ⟨(none, CH c', [eL 1 o'], 24, c'.2.2.2.1), s, a, _, _, rfl, rfl, hr, hs _, hs _, fun s' hr' hcode => ?_⟩
    refine ⟨(none, CH c', [eL 1 o'], 24, c'.2.2.2.1), s', rfl, rfl, ?_⟩
    conv => whnf
    rw [hcode]
    refine And.intro (fun _ => ?_) (fun q => absurd hk q)
    refine And.intro (fun q => ?_) (fun q => ?_)
    · exact hx a s' o' c' _ _ _ hc' hr'
    · refine And.intro ⟨by decide, by decide⟩ ?_
      refine And.intro (fun _ => ?_) (fun q2 => absurd ((cmp_eq _ _).mpr (ho (by omega))) q2)
      exact hx a s' o' c' _ _ _ hc' hr'
  refine hK [816] _ _ _ _ _ _ ?_
  refine And.intro (rng_of (by omega) (by omega)) ?_
  refine And.intro ⟨by omega, by omega⟩ ?_
  refine And.intro (rng_of (by omega) (by omega)) ?_
  refine And.intro ⟨by omega, by omega⟩ ?_
  refine ⟨s, o, c, a, _, _, rfl, rfl, hc, ?_⟩
  exact ⟨fun e c' o' hc' ho => tail 0 c' o' hc' (congrArg Int.ofNat e) (fun _ => ho), fun e c' hc' => tail 1 c' o hc' (congrArg Int.ofNat e) (fun z => absurd (e.symm.trans z) (by decide)), fun e c' hc' => tail 2 c' o hc' (congrArg Int.ofNat e) (fun z => absurd (e.symm.trans z) (by decide))⟩
def kW_12 : MC := [(866, .aload_n 1, 1), (867, .aload_n 0, 1), (868, .iload 4, 2), (870, .iconst 1, 1), (871, .iadd, 1), (872, .iaload, 1), (873, .aload_n 0, 1), (874, .iload 4, 2), (876, .iconst 2, 1), (877, .iadd, 1), (878, .iaload, 1), (879, .aload_n 3, 1), (880, .invokestatic 138, 3), (883, .istore 5, 2), (885, .aload_n 2, 1), (886, .aload_n 0, 1), (887, .iload 4, 2), (889, .iconst 1, 1), (890, .iadd, 1), (891, .iaload, 1), (892, .aload_n 0, 1), (893, .iload 4, 2), (895, .iconst 2, 1), (896, .iadd, 1), (897, .iaload, 1), (898, .invokevirtual 140, 3), (901, .istore 6, 2), (903, .aload_n 2, 1), (904, .invokevirtual 104, 3), (907, .iload 5, 2), (909, .if_icmp .eq 5, 3), (912, .iconst 0, 1), (913, .ireturn, 1), (914, .iload 5, 2), (916, .ifCond .ne 22, 3), (919, .aload_n 3, 1), (920, .iconst 0, 1), (921, .laload, 1), (922, .iload 6, 2), (924, .ifCond .eq 7, 3), (927, .lconst 1, 1), (928, .goto 4, 3), (931, .lconst 0, 1), (932, .lcmp, 1), (933, .ifCond .eq 5, 3), (936, .iconst 0, 1), (937, .ireturn, 1), (938, .goto 1014, 3)]
theorem kW_12_ok : ∀ q ∈ kW_12, decode code q.1 = .ok (q.2.1, q.2.2) := by decide +kernel
theorem wl_same : mm_Yl yL_same cL_same 5 (mm_hh 1 17 20 0) 4 := ⟨tb4 (i := 205) rfl rfl, tb1 (i := 0) rfl rfl, ⟨by decide, by decide, by decide +kernel⟩, tb4 (i := 204) rfl rfl⟩
abbrev ctW_12 : List (Nat × CE) := [(138, (4, 2, 12, false, (1, 0), T_L_same)), (140, (3, 0, 0, false, (0, 10), T_X10_same)), (104, (1, 0, 0, false, (0, 10), T_X10_thrown))]
theorem cW_12 (l : Launch) (hl : l.stackTraces = false) : ∀ (i : Nat) (q : CE), mm_look ctW_12 i = some q → mm_CA l RL 60 i q := mm_ca_cons (Or.inr (Or.inl (mm_cls wl_same (tb4 (i := 203) rfl rfl) (m_L_same l hl) (by decide) (by decide) rfl))) (mm_ca_cons (Or.inl (mm_cbv wi_X10_same (tb7 (i := 204) rfl rfl) (m_X10_same l) (by decide) (by decide) rfl)) (mm_ca_cons (Or.inl (mm_cbv wi_X10_thrown (tb6 (i := 161) rfl rfl) (m_X10_thrown l) (by decide) (by decide) rfl)) (mm_ca_nil)))
set_option maxHeartbeats 4000000 in
theorem lc_12 {K : Nat → LV → List MV → HP → Nat → Nat → Prop} {L : Nat} {xs : Nat → Int32} (hL3 : L ≤ 3072) {i : Nat} (hi : i + 6 ≤ L) (hK : mm_Cl (eLaw ctW_12 [] 2 12 [(2002, (L, scr xs))] true) kW_12 lawN (fun _ _ => False) K) {a : AS} {s : RS} {o : Int → Int64} {c : CS} (hc : CR a c) (hr : RR a s) (hx : ∀ (a' : AS) (s' : RS) (o' : Int → Int64) (c' : CS) (o5 o6 o7 : Option MV), CR a' c' → RR a' s' → K 1952 [some (mR 2002), some (mR 0), some (mR 1000), some (mR 1029), some (mI (i : Int)), o5, o6, o7] [] (hL s' o' c') 2 12) (o5 o6 o7 : Option MV) : K 866 [some (mR 2002), some (mR 0), some (mR 1000), some (mR 1029), some (mI (i : Int)), o5, o6, o7] [] (hL s o c) 0 0 := by
  have hs : ∀ k : Int, mm_rng (scr xs k) := fun k => i32_rng _
  have tail : ∀ (k : Int) (c' : CS) (o' : Int → Int64), CR a c' → ((((xSame a (scr xs ((i : Int) + 1)) (scr xs ((i : Int) + 2)))).1 : Nat) : Int) = k → (((xSame a (scr xs ((i : Int) + 1)) (scr xs ((i : Int) + 2)))).1 = 0 → o' 0 = Int64.ofInt ((xSame a (scr xs ((i : Int) + 1)) (scr xs ((i : Int) + 2)))).2) → K 883 [some (mR 2002), some (mR 0), some (mR 1000), some (mR 1029), some (mI (i : Int)), o5, o6, o7] [mI k] (hL s o' c') 2 12 := by
    intro k c' o' hc' hk ho
    refine hK [1952] _ _ _ _ _ _ ?_
    refine And.intro (rng_of (by omega) (by omega)) ?_
    refine And.intro ⟨by omega, by omega⟩ ?_
    refine And.intro (rng_of (by omega) (by omega)) ?_
    refine And.intro ⟨by omega, by omega⟩ ?_
    refine ⟨(none, CH c', [eL 1 o'], 24, c'.2.2.2.1), s, a, _, _, rfl, rfl, hr, hs _, hs _, fun s' hr' hcode => ?_⟩
    refine ⟨(none, CH c', [eL 1 o'], 24, c'.2.2.2.1), s', rfl, rfl, ?_⟩
    conv => whnf
    rw [hcode]
    refine And.intro (fun _ => ?_) (fun q => absurd hk q)
    refine And.intro (fun q => ?_) (fun q => ?_)
    · exact hx a s' o' c' _ _ _ hc' hr'
    · refine And.intro ⟨by decide, by decide⟩ ?_
      have hv := same01 a (scr xs ((i : Int) + 1)) (scr xs ((i : Int) + 2))
      have h0 := ho (by omega)
      rcases hv with hv | hv
      · rw [hv] at h0
        refine And.intro (fun _ => ?_) (fun z => absurd hv z)
        refine And.intro (fun _ => ?_) (fun q2 => absurd ((cmp_eq _ _).mpr h0) q2)
        exact hx a s' o' c' _ _ _ hc' hr'
      · rw [hv] at h0
        refine And.intro (fun z => absurd (hv.symm.trans z) (by decide)) (fun _ => ?_)
        refine And.intro (fun _ => ?_) (fun q2 => absurd ((cmp_eq _ _).mpr h0) q2)
        exact hx a s' o' c' _ _ _ hc' hr'
  refine hK [883] _ _ _ _ _ _ ?_
  refine And.intro (rng_of (by omega) (by omega)) ?_
  refine And.intro ⟨by omega, by omega⟩ ?_
  refine And.intro (rng_of (by omega) (by omega)) ?_
  refine And.intro ⟨by omega, by omega⟩ ?_
  refine ⟨s, o, c, a, _, _, rfl, rfl, hc, ?_⟩
  exact ⟨fun e c' o' hc' ho => tail 0 c' o' hc' (congrArg Int.ofNat e) (fun _ => ho), fun e c' hc' => tail 1 c' o hc' (congrArg Int.ofNat e) (fun z => absurd (e.symm.trans z) (by decide)), fun e c' hc' => tail 2 c' o hc' (congrArg Int.ofNat e) (fun z => absurd (e.symm.trans z) (by decide))⟩
def kW_13 : MC := [(941, .aload_n 1, 1), (942, .aload_n 0, 1), (943, .iload 4, 2), (945, .iconst 1, 1), (946, .iadd, 1), (947, .iaload, 1), (948, .aload_n 0, 1), (949, .iload 4, 2), (951, .iconst 2, 1), (952, .iadd, 1), (953, .iaload, 1), (954, .aload_n 0, 1), (955, .iload 4, 2), (957, .iconst 3, 1), (958, .iadd, 1), (959, .iaload, 1), (960, .aload_n 0, 1), (961, .iload 4, 2), (963, .iconst 4, 1), (964, .iadd, 1), (965, .iaload, 1), (966, .aload_n 0, 1), (967, .iload 4, 2), (969, .iconst 5, 1), (970, .iadd, 1), (971, .iaload, 1), (972, .invokevirtual 141, 3), (975, .aload_n 2, 1), (976, .aload_n 0, 1), (977, .iload 4, 2), (979, .iconst 1, 1), (980, .iadd, 1), (981, .iaload, 1), (982, .aload_n 0, 1), (983, .iload 4, 2), (985, .iconst 2, 1), (986, .iadd, 1), (987, .iaload, 1), (988, .aload_n 0, 1), (989, .iload 4, 2), (991, .iconst 3, 1), (992, .iadd, 1), (993, .iaload, 1), (994, .aload_n 0, 1), (995, .iload 4, 2), (997, .iconst 4, 1), (998, .iadd, 1), (999, .iaload, 1), (1000, .aload_n 0, 1), (1001, .iload 4, 2), (1003, .iconst 5, 1), (1004, .iadd, 1), (1005, .iaload, 1), (1006, .invokevirtual 144, 3), (1009, .if_icmp .eq 943, 3), (1012, .iconst 0, 1), (1013, .ireturn, 1)]
theorem kW_13_ok : ∀ q ∈ kW_13, decode code q.1 = .ok (q.2.1, q.2.2) := by decide +kernel
abbrev ctW_13 : List (Nat × CE) := [(141, (6, 0, 0, false, (0, 9), T_X9_make)), (144, (6, 0, 0, false, (0, 10), T_X10_make))]
theorem cW_13 (l : Launch) (hl : l.stackTraces = false) : ∀ (i : Nat) (q : CE), mm_look ctW_13 i = some q → mm_CA l RL 60 i q := mm_ca_cons (Or.inl (mm_cbv wi_X9_make (tb2 (i := 208) rfl rfl) (m_X9_make l) (by decide) (by decide) rfl)) (mm_ca_cons (Or.inl (mm_cbv wi_X10_make (tb7 (i := 208) rfl rfl) (m_X10_make l) (by decide) (by decide) rfl)) (mm_ca_nil))
set_option maxHeartbeats 4000000 in
theorem lc_13 {K : Nat → LV → List MV → HP → Nat → Nat → Prop} {L : Nat} {xs : Nat → Int32} (hL3 : L ≤ 3072) {i : Nat} (hi : i + 6 ≤ L) (hK : mm_Cl (eLaw ctW_13 [] 0 0 [(2002, (L, scr xs))] true) kW_13 lawN (fun _ _ => False) K) {a : AS} {s : RS} {o : Int → Int64} {c : CS} (hc : CR a c) (hr : RR a s) (hx : ∀ (a' : AS) (s' : RS) (o' : Int → Int64) (c' : CS) (o5 o6 o7 : Option MV), CR a' c' → RR a' s' → K 1952 [some (mR 2002), some (mR 0), some (mR 1000), some (mR 1029), some (mI (i : Int)), o5, o6, o7] [] (hL s' o' c') 0 0) (o5 o6 o7 : Option MV) : K 941 [some (mR 2002), some (mR 0), some (mR 1000), some (mR 1029), some (mI (i : Int)), o5, o6, o7] [] (hL s o c) 0 0 := by
  have hs : ∀ k : Int, mm_rng (scr xs k) := fun k => i32_rng _
  refine hK [1952] _ _ _ _ _ _ ?_
  refine And.intro (rng_of (by omega) (by omega)) ?_
  refine And.intro ⟨by omega, by omega⟩ ?_
  refine And.intro (rng_of (by omega) (by omega)) ?_
  refine And.intro ⟨by omega, by omega⟩ ?_
  refine And.intro (rng_of (by omega) (by omega)) ?_
  refine And.intro ⟨by omega, by omega⟩ ?_
  refine And.intro (rng_of (by omega) (by omega)) ?_
  refine And.intro ⟨by omega, by omega⟩ ?_
  refine And.intro (rng_of (by omega) (by omega)) ?_
  refine And.intro ⟨by omega, by omega⟩ ?_
  refine ⟨RH s [eL 1 o], c, a, _, _, _, _, _, rfl, rfl, hc, fun c' hc' => ?_⟩
  refine And.intro (rng_of (by omega) (by omega)) ?_
  refine And.intro ⟨by omega, by omega⟩ ?_
  refine And.intro (rng_of (by omega) (by omega)) ?_
  refine And.intro ⟨by omega, by omega⟩ ?_
  refine And.intro (rng_of (by omega) (by omega)) ?_
  refine And.intro ⟨by omega, by omega⟩ ?_
  refine And.intro (rng_of (by omega) (by omega)) ?_
  refine And.intro ⟨by omega, by omega⟩ ?_
  refine And.intro (rng_of (by omega) (by omega)) ?_
  refine And.intro ⟨by omega, by omega⟩ ?_
  refine ⟨(none, CH c', [eL 1 o], 24, c'.2.2.2.1), s, a, _, _, _, _, _, rfl, rfl, hr, hs _, hs _, hs _, hs _, fun s' hr' hcode => ?_⟩
  refine And.intro (fun _ => ?_) (fun q => absurd rfl q)
  exact hx _ s' o c' _ _ _ hc' hr'
