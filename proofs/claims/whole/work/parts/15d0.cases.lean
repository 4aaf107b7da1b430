/-! the law's body: cases 0 to 6 -/
def kW_0 : MC := [(168, .aload_n 1, 1), (169, .aload_n 0, 1), (170, .iload 4, 2), (172, .iconst 1, 1), (173, .iadd, 1), (174, .iaload, 1), (175, .aload_n 0, 1), (176, .iload 4, 2), (178, .iconst 2, 1), (179, .iadd, 1), (180, .iaload, 1), (181, .invokevirtual 90, 3), (184, .aload_n 2, 1), (185, .aload_n 0, 1), (186, .iload 4, 2), (188, .iconst 1, 1), (189, .iadd, 1), (190, .iaload, 1), (191, .aload_n 0, 1), (192, .iload 4, 2), (194, .iconst 2, 1), (195, .iadd, 1), (196, .iaload, 1), (197, .invokevirtual 93, 3), (200, .if_icmp .eq 1752, 3), (203, .iconst 0, 1), (204, .ireturn, 1)]
theorem kW_0_ok : ∀ q ∈ kW_0, decode code q.1 = .ok (q.2.1, q.2.2) := by decide +kernel
abbrev ctW_0 : List (Nat × CE) := [(90, (3, 0, 0, false, (0, 9), T_X9_field)), (93, (3, 0, 0, false, (0, 10), T_X10_field))]
theorem cW_0 (l : Launch) (hl : l.stackTraces = false) : ∀ (i : Nat) (q : CE), mm_look ctW_0 i = some q → mm_CA l RL 60 i q := mm_ca_cons (Or.inl (mm_cbv wi_X9_field (tb2 (i := 187) rfl rfl) (m_X9_field l) (by decide) (by decide) rfl)) (mm_ca_cons (Or.inl (mm_cbv wi_X10_field (tb7 (i := 129) rfl rfl) (m_X10_field l) (by decide) (by decide) rfl)) (mm_ca_nil))
set_option maxHeartbeats 4000000 in
theorem lc_0 {K : Nat → LV → List MV → HP → Nat → Nat → Prop} {L : Nat} {xs : Nat → Int32} (hL3 : L ≤ 3072) {i : Nat} (hi : i + 6 ≤ L) (hK : mm_Cl (eLaw ctW_0 [] 0 0 [(2002, (L, scr xs))] true) kW_0 lawN (fun _ _ => False) K) {a : AS} {s : RS} {o : Int → Int64} {c : CS} (hc : CR a c) (hr : RR a s) (hx : ∀ (a' : AS) (s' : RS) (o' : Int → Int64) (c' : CS) (o5 o6 o7 : Option MV), CR a' c' → RR a' s' → K 1952 [some (mR 2002), some (mR 0), some (mR 1000), some (mR 1029), some (mI (i : Int)), o5, o6, o7] [] (hL s' o' c') 0 0) (o5 o6 o7 : Option MV) : K 168 [some (mR 2002), some (mR 0), some (mR 1000), some (mR 1029), some (mI (i : Int)), o5, o6, o7] [] (hL s o c) 0 0 := by
  have hs : ∀ k : Int, mm_rng (scr xs k) := fun k => i32_rng _
  refine hK [1952] _ _ _ _ _ _ ?_
  refine And.intro (rng_of (by omega) (by omega)) ?_
  refine And.intro ⟨by omega, by omega⟩ ?_
  refine And.intro (rng_of (by omega) (by omega)) ?_
  refine And.intro ⟨by omega, by omega⟩ ?_
  refine ⟨RH s [eL 1 o], c, a, _, _, rfl, rfl, hc, fun c' hc' => ?_⟩
  refine And.intro (rng_of (by omega) (by omega)) ?_
  refine And.intro ⟨by omega, by omega⟩ ?_
  refine And.intro (rng_of (by omega) (by omega)) ?_
  refine And.intro ⟨by omega, by omega⟩ ?_
  refine ⟨(none, CH c', [eL 1 o], 24, c'.2.2.2.1), s, a, _, _, rfl, rfl, hr, hs _, hs _, fun s' hr' hcode => ?_⟩
  refine And.intro (fun _ => ?_) (fun q => absurd rfl q)
  exact hx _ s' o c' _ _ _ hc' hr'
def kW_1 : MC := [(205, .aload_n 1, 1), (206, .aload_n 0, 1), (207, .iload 4, 2), (209, .iconst 1, 1), (210, .iadd, 1), (211, .iaload, 1), (212, .aload_n 0, 1), (213, .iload 4, 2), (215, .iconst 2, 1), (216, .iadd, 1), (217, .iaload, 1), (218, .aload_n 0, 1), (219, .iload 4, 2), (221, .iconst 3, 1), (222, .iadd, 1), (223, .iaload, 1), (224, .aload_n 0, 1), (225, .iload 4, 2), (227, .iconst 4, 1), (228, .iadd, 1), (229, .iaload, 1), (230, .aload_n 0, 1), (231, .iload 4, 2), (233, .iconst 5, 1), (234, .iadd, 1), (235, .iaload, 1), (236, .invokevirtual 94, 3), (239, .aload_n 2, 1), (240, .aload_n 0, 1), (241, .iload 4, 2), (243, .iconst 1, 1), (244, .iadd, 1), (245, .iaload, 1), (246, .aload_n 0, 1), (247, .iload 4, 2), (249, .iconst 2, 1), (250, .iadd, 1), (251, .iaload, 1), (252, .aload_n 0, 1), (253, .iload 4, 2), (255, .iconst 3, 1), (256, .iadd, 1), (257, .iaload, 1), (258, .aload_n 0, 1), (259, .iload 4, 2), (261, .iconst 4, 1), (262, .iadd, 1), (263, .iaload, 1), (264, .aload_n 0, 1), (265, .iload 4, 2), (267, .iconst 5, 1), (268, .iadd, 1), (269, .iaload, 1), (270, .invokevirtual 97, 3), (273, .if_icmp .eq 1679, 3), (276, .iconst 0, 1), (277, .ireturn, 1)]
theorem kW_1_ok : ∀ q ∈ kW_1, decode code q.1 = .ok (q.2.1, q.2.2) := by decide +kernel
abbrev ctW_1 : List (Nat × CE) := [(94, (6, 0, 0, false, (0, 9), T_X9_feed)), (97, (6, 0, 0, false, (0, 10), T_X10_feed))]
theorem cW_1 (l : Launch) (hl : l.stackTraces = false) : ∀ (i : Nat) (q : CE), mm_look ctW_1 i = some q → mm_CA l RL 60 i q := mm_ca_cons (Or.inl (mm_cbv wi_X9_feed (tb2 (i := 196) rfl rfl) (m_X9_feed l) (by decide) (by decide) rfl)) (mm_ca_cons (Or.inl (mm_cbv wi_X10_feed (tb6 (i := 165) rfl rfl) (m_X10_feed l) (by decide) (by decide) rfl)) (mm_ca_nil))
set_option maxHeartbeats 4000000 in
theorem lc_1 {K : Nat → LV → List MV → HP → Nat → Nat → Prop} {L : Nat} {xs : Nat → Int32} (hL3 : L ≤ 3072) {i : Nat} (hi : i + 6 ≤ L) (hK : mm_Cl (eLaw ctW_1 [] 0 0 [(2002, (L, scr xs))] true) kW_1 lawN (fun _ _ => False) K) {a : AS} {s : RS} {o : Int → Int64} {c : CS} (hc : CR a c) (hr : RR a s) (hx : ∀ (a' : AS) (s' : RS) (o' : Int → Int64) (c' : CS) (o5 o6 o7 : Option MV), CR a' c' → RR a' s' → K 1952 [some (mR 2002), some (mR 0), some (mR 1000), some (mR 1029), some (mI (i : Int)), o5, o6, o7] [] (hL s' o' c') 0 0) (o5 o6 o7 : Option MV) : K 205 [some (mR 2002), some (mR 0), some (mR 1000), some (mR 1029), some (mI (i : Int)), o5, o6, o7] [] (hL s o c) 0 0 := by
  have hs : ∀ k : Int, mm_rng (scr xs k) := fun k => i32_rng _
  refine hK [1952] _ _ _ _ _ _ ?_
  refine And.intro (rng_of (by omega) (by omega)) ?_
  refine And.intro ⟨by omega, by omega⟩ ?_
  refine And.intro (rng_of (by omega) (by omega)) ?_
  refine And.intro ⟨by omega, by omega⟩ ?_
  refine And.intro (rng_of (by omega) (by omega)) ?_
  refine And.intro ⟨by omega, by omega⟩ ?_
  refine And.intro (rng_of (by omega) (by omega)) ?_
  refine And.intro ⟨by omega, by omega⟩ ?_
  refine And.intro (rng_of (by omega) (by omega)) ?_
  refine And.intro ⟨by omega, by omega⟩ ?_
  refine ⟨RH s [eL 1 o], c, a, _, _, _, _, _, rfl, rfl, hc, fun c' hc' => ?_⟩
  refine And.intro (rng_of (by omega) (by omega)) ?_
  refine And.intro ⟨by omega, by omega⟩ ?_
  refine And.intro (rng_of (by omega) (by omega)) ?_
  refine And.intro ⟨by omega, by omega⟩ ?_
  refine And.intro (rng_of (by omega) (by omega)) ?_
  refine And.intro ⟨by omega, by omega⟩ ?_
  refine And.intro (rng_of (by omega) (by omega)) ?_
  refine And.intro ⟨by omega, by omega⟩ ?_
  refine And.intro (rng_of (by omega) (by omega)) ?_
  refine And.intro ⟨by omega, by omega⟩ ?_
  refine ⟨(none, CH c', [eL 1 o], 24, c'.2.2.2.1), s, a, _, _, _, _, _, rfl, rfl, hr, fun s' hr' hcode => ?_⟩
  refine And.intro (fun _ => ?_) (fun q => absurd rfl q)
  exact hx _ s' o c' _ _ _ hc' hr'
def kW_2 : MC := [(278, .aload_n 1, 1), (279, .aload_n 0, 1), (280, .iload 4, 2), (282, .iconst 1, 1), (283, .iadd, 1), (284, .iaload, 1), (285, .aload_n 0, 1), (286, .iload 4, 2), (288, .iconst 2, 1), (289, .iadd, 1), (290, .iaload, 1), (291, .aload_n 3, 1), (292, .invokestatic 98, 3), (295, .istore 5, 2), (297, .aload_n 2, 1), (298, .aload_n 0, 1), (299, .iload 4, 2), (301, .iconst 1, 1), (302, .iadd, 1), (303, .iaload, 1), (304, .aload_n 0, 1), (305, .iload 4, 2), (307, .iconst 2, 1), (308, .iadd, 1), (309, .iaload, 1), (310, .invokevirtual 103, 3), (313, .istore 6, 2), (315, .aload_n 2, 1), (316, .invokevirtual 104, 3), (319, .iload 5, 2), (321, .if_icmp .eq 5, 3), (324, .iconst 0, 1), (325, .ireturn, 1), (326, .iload 5, 2), (328, .ifCond .ne 15, 3), (331, .aload_n 3, 1), (332, .iconst 0, 1), (333, .laload, 1), (334, .iload 6, 2), (336, .i2l, 1), (337, .lcmp, 1), (338, .ifCond .eq 5, 3), (341, .iconst 0, 1), (342, .ireturn, 1), (343, .goto 1609, 3)]
theorem kW_2_ok : ∀ q ∈ kW_2, decode code q.1 = .ok (q.2.1, q.2.2) := by decide +kernel
theorem wl_tell : mm_Yl yL_tell cL_tell 5 (mm_hh 0 10 13 0) 4 := ⟨tb3 (i := 101) rfl rfl, tb1 (i := 0) rfl rfl, ⟨by decide, by decide, by decide +kernel⟩, tb3 (i := 100) rfl rfl⟩
abbrev ctW_2 : List (Nat × CE) := [(98, (4, 1, 6, false, (1, 0), T_L_tell)), (103, (3, 0, 0, false, (0, 10), T_X10_tell)), (104, (1, 0, 0, false, (0, 10), T_X10_thrown))]
theorem cW_2 (l : Launch) (hl : l.stackTraces = false) : ∀ (i : Nat) (q : CE), mm_look ctW_2 i = some q → mm_CA l RL 60 i q := mm_ca_cons (Or.inr (Or.inl (mm_cls wl_tell (tb3 (i := 99) rfl rfl) (m_L_tell l hl) (by decide) (by decide) rfl))) (mm_ca_cons (Or.inl (mm_cbv wi_X10_tell (tb6 (i := 169) rfl rfl) (m_X10_tell l) (by decide) (by decide) rfl)) (mm_ca_cons (Or.inl (mm_cbv wi_X10_thrown (tb6 (i := 161) rfl rfl) (m_X10_thrown l) (by decide) (by decide) rfl)) (mm_ca_nil)))
set_option maxHeartbeats 4000000 in
theorem lc_2 {K : Nat → LV → List MV → HP → Nat → Nat → Prop} {L : Nat} {xs : Nat → Int32} (hL3 : L ≤ 3072) {i : Nat} (hi : i + 6 ≤ L) (hK : mm_Cl (eLaw ctW_2 [] 1 6 [(2002, (L, scr xs))] true) kW_2 lawN (fun _ _ => False) K) {a : AS} {s : RS} {o : Int → Int64} {c : CS} (hc : CR a c) (hr : RR a s) (hx : ∀ (a' : AS) (s' : RS) (o' : Int → Int64) (c' : CS) (o5 o6 o7 : Option MV), CR a' c' → RR a' s' → K 1952 [some (mR 2002), some (mR 0), some (mR 1000), some (mR 1029), some (mI (i : Int)), o5, o6, o7] [] (hL s' o' c') 1 6) (o5 o6 o7 : Option MV) : K 278 [some (mR 2002), some (mR 0), some (mR 1000), some (mR 1029), some (mI (i : Int)), o5, o6, o7] [] (hL s o c) 0 0 := by
  have hs : ∀ k : Int, mm_rng (scr xs k) := fun k => i32_rng _
  have tail : ∀ (k : Int) (c' : CS) (o' : Int → Int64), CR ((xTell a (scr xs ((i : Int) + 1)) (scr xs ((i : Int) + 2))).1) c' → ((((xTell a (scr xs ((i : Int) + 1)) (scr xs ((i : Int) + 2))).2).1 : Nat) : Int) = k → (((xTell a (scr xs ((i : Int) + 1)) (scr xs ((i : Int) + 2))).2).1 = 0 → o' 0 = Int64.ofInt ((xTell a (scr xs ((i : Int) + 1)) (scr xs ((i : Int) + 2))).2).2) → K 295 [some (mR 2002), some (mR 0), some (mR 1000), some (mR 1029), some (mI (i : Int)), o5, o6, o7] [mI k] (hL s o' c') 1 6 := by
    intro k c' o' hc' hk ho
    refine hK [1952] _ _ _ _ _ _ ?_
    refine And.intro (rng_of (by omega) (by omega)) ?_
    refine And.intro ⟨by omega, by omega⟩ ?_
    refine And.intro (rng_of (by omega) (by omega)) ?_
    refine And.intro ⟨by omega, by omega⟩ ?_
    refine ⟨(none, CH c', [eL 1 o'], 24, c'.2.2.2.1), s, a, _, _, rfl, rfl, hr, hs _, fun s' hr' hcode => ?_⟩
    refine ⟨(none, CH c', [eL 1 o'], 24, c'.2.2.2.1), s', rfl, rfl, ?_⟩
    conv => whnf
    rw [hcode]
    refine And.intro (fun _ => ?_) (fun q => absurd hk q)
    refine And.intro (fun q => ?_) (fun q => ?_)
    · exact hx ((xTell a (scr xs ((i : Int) + 1)) (scr xs ((i : Int) + 2))).1) s' o' c' _ _ _ hc' hr'
    · refine And.intro ⟨by decide, by decide⟩ ?_
      refine And.intro (fun _ => ?_) (fun q2 => absurd ((cmp_eq _ _).mpr (ho (by omega))) q2)
      exact hx ((xTell a (scr xs ((i : Int) + 1)) (scr xs ((i : Int) + 2))).1) s' o' c' _ _ _ hc' hr'
  refine hK [295] _ _ _ _ _ _ ?_
  refine And.intro (rng_of (by omega) (by omega)) ?_
  refine And.intro ⟨by omega, by omega⟩ ?_
  refine And.intro (rng_of (by omega) (by omega)) ?_
  refine And.intro ⟨by omega, by omega⟩ ?_
  refine ⟨s, o, c, a, _, _, rfl, rfl, hc, ?_⟩
  exact ⟨fun e c' o' hc' ho => tail 0 c' o' hc' (congrArg Int.ofNat e) (fun _ => ho), fun e c' hc' => tail 1 c' o hc' (congrArg Int.ofNat e) (fun z => absurd (e.symm.trans z) (by decide)), fun e c' hc' => tail 2 c' o hc' (congrArg Int.ofNat e) (fun z => absurd (e.symm.trans z) (by decide))⟩
def kW_3 : MC := [(346, .aload_n 1, 1), (347, .invokevirtual 108, 3), (350, .aload_n 2, 1), (351, .invokevirtual 111, 3), (354, .if_icmp .eq 1598, 3), (357, .iconst 0, 1), (358, .ireturn, 1)]
theorem kW_3_ok : ∀ q ∈ kW_3, decode code q.1 = .ok (q.2.1, q.2.2) := by decide +kernel
abbrev ctW_3 : List (Nat × CE) := [(108, (1, 0, 0, false, (0, 9), T_X9_fault)), (111, (1, 0, 0, false, (0, 10), T_X10_fault))]
theorem cW_3 (l : Launch) (hl : l.stackTraces = false) : ∀ (i : Nat) (q : CE), mm_look ctW_3 i = some q → mm_CA l RL 60 i q := mm_ca_cons (Or.inl (mm_cbv wi_X9_fault (tb2 (i := 204) rfl rfl) (m_X9_fault l) (by decide) (by decide) rfl)) (mm_ca_cons (Or.inl (mm_cbv wi_X10_fault (tb7 (i := 125) rfl rfl) (m_X10_fault l) (by decide) (by decide) rfl)) (mm_ca_nil))
set_option maxHeartbeats 4000000 in
theorem lc_3 {K : Nat → LV → List MV → HP → Nat → Nat → Prop} {L : Nat} {xs : Nat → Int32} (hL3 : L ≤ 3072) {i : Nat} (hi : i + 6 ≤ L) (hK : mm_Cl (eLaw ctW_3 [] 0 0 [(2002, (L, scr xs))] true) kW_3 lawN (fun _ _ => False) K) {a : AS} {s : RS} {o : Int → Int64} {c : CS} (hc : CR a c) (hr : RR a s) (hx : ∀ (a' : AS) (s' : RS) (o' : Int → Int64) (c' : CS) (o5 o6 o7 : Option MV), CR a' c' → RR a' s' → K 1952 [some (mR 2002), some (mR 0), some (mR 1000), some (mR 1029), some (mI (i : Int)), o5, o6, o7] [] (hL s' o' c') 0 0) (o5 o6 o7 : Option MV) : K 346 [some (mR 2002), some (mR 0), some (mR 1000), some (mR 1029), some (mI (i : Int)), o5, o6, o7] [] (hL s o c) 0 0 := by
  have hs : ∀ k : Int, mm_rng (scr xs k) := fun k => i32_rng _
  refine hK [1952] _ _ _ _ _ _ ?_
  refine ⟨RH s [eL 1 o], c, a, rfl, rfl, hc, ?_⟩
  refine ⟨(none, CH c, [eL 1 o], 24, c.2.2.2.1), s, a, rfl, rfl, hr, fun s' hr' hcode => ?_⟩
  refine And.intro (fun _ => ?_) (fun q => absurd rfl q)
  exact hx a s' o c _ _ _ hc hr'
def kW_4 : MC := [(359, .aload_n 1, 1), (360, .aload_n 0, 1), (361, .iload 4, 2), (363, .iconst 1, 1), (364, .iadd, 1), (365, .iaload, 1), (366, .aload_n 3, 1), (367, .invokestatic 112, 3), (370, .istore 5, 2), (372, .aload_n 2, 1), (373, .aload_n 0, 1), (374, .iload 4, 2), (376, .iconst 1, 1), (377, .iadd, 1), (378, .iaload, 1), (379, .invokevirtual 115, 3), (382, .istore 6, 2), (384, .aload_n 2, 1), (385, .invokevirtual 104, 3), (388, .iload 5, 2), (390, .if_icmp .eq 5, 3), (393, .iconst 0, 1), (394, .ireturn, 1), (395, .iload 5, 2), (397, .ifCond .ne 15, 3), (400, .aload_n 3, 1), (401, .iconst 0, 1), (402, .laload, 1), (403, .iload 6, 2), (405, .i2l, 1), (406, .lcmp, 1), (407, .ifCond .eq 5, 3), (410, .iconst 0, 1), (411, .ireturn, 1), (412, .goto 1540, 3)]
theorem kW_4_ok : ∀ q ∈ kW_4, decode code q.1 = .ok (q.2.1, q.2.2) := by decide +kernel
theorem wl_count : mm_Yl yL_count cL_count 4 (mm_hh 1 9 12 0) 3 := ⟨tb4 (i := 83) rfl rfl, tb1 (i := 0) rfl rfl, ⟨by decide, by decide, by decide +kernel⟩, tb4 (i := 82) rfl rfl⟩
abbrev ctW_4 : List (Nat × CE) := [(112, (3, 1, 6, false, (1, 0), T_L_count)), (115, (2, 0, 0, false, (0, 10), T_X10_count)), (104, (1, 0, 0, false, (0, 10), T_X10_thrown))]
theorem cW_4 (l : Launch) (hl : l.stackTraces = false) : ∀ (i : Nat) (q : CE), mm_look ctW_4 i = some q → mm_CA l RL 60 i q := mm_ca_cons (Or.inr (Or.inl (mm_cls wl_count (tb4 (i := 81) rfl rfl) (m_L_count l hl) (by decide) (by decide) rfl))) (mm_ca_cons (Or.inl (mm_cbv wi_X10_count (tb7 (i := 134) rfl rfl) (m_X10_count l) (by decide) (by decide) rfl)) (mm_ca_cons (Or.inl (mm_cbv wi_X10_thrown (tb6 (i := 161) rfl rfl) (m_X10_thrown l) (by decide) (by decide) rfl)) (mm_ca_nil)))
set_option maxHeartbeats 4000000 in
theorem lc_4 {K : Nat → LV → List MV → HP → Nat → Nat → Prop} {L : Nat} {xs : Nat → Int32} (hL3 : L ≤ 3072) {i : Nat} (hi : i + 6 ≤ L) (hK : mm_Cl (eLaw ctW_4 [] 1 6 [(2002, (L, scr xs))] true) kW_4 lawN (fun _ _ => False) K) {a : AS} {s : RS} {o : Int → Int64} {c : CS} (hc : CR a c) (hr : RR a s) (hx : ∀ (a' : AS) (s' : RS) (o' : Int → Int64) (c' : CS) (o5 o6 o7 : Option MV), CR a' c' → RR a' s' → K 1952 [some (mR 2002), some (mR 0), some (mR 1000), some (mR 1029), some (mI (i : Int)), o5, o6, o7] [] (hL s' o' c') 1 6) (o5 o6 o7 : Option MV) : K 359 [some (mR 2002), some (mR 0), some (mR 1000), some (mR 1029), some (mI (i : Int)), o5, o6, o7] [] (hL s o c) 0 0 := by
  have hs : ∀ k : Int, mm_rng (scr xs k) := fun k => i32_rng _
  have tail : ∀ (k : Int) (c' : CS) (o' : Int → Int64), CR a c' → ((((xCount a (scr xs ((i : Int) + 1)))).1 : Nat) : Int) = k → (((xCount a (scr xs ((i : Int) + 1)))).1 = 0 → o' 0 = Int64.ofInt ((xCount a (scr xs ((i : Int) + 1)))).2) → K 370 [some (mR 2002), some (mR 0), some (mR 1000), some (mR 1029), some (mI (i : Int)), o5, o6, o7] [mI k] (hL s o' c') 1 6 := by
    intro k c' o' hc' hk ho
    refine hK [1952] _ _ _ _ _ _ ?_
    refine And.intro (rng_of (by omega) (by omega)) ?_
    refine And.intro ⟨by omega, by omega⟩ ?_
    refine ⟨(none, CH c', [eL 1 o'], 24, c'.2.2.2.1), s, a, _, rfl, rfl, hr, fun s' hr' hcode => ?_⟩
    refine ⟨(none, CH c', [eL 1 o'], 24, c'.2.2.2.1), s', rfl, rfl, ?_⟩
    conv => whnf
    rw [hcode]
    refine And.intro (fun _ => ?_) (fun q => absurd hk q)
    refine And.intro (fun q => ?_) (fun q => ?_)
    · exact hx a s' o' c' _ _ _ hc' hr'
    · refine And.intro ⟨by decide, by decide⟩ ?_
      refine And.intro (fun _ => ?_) (fun q2 => absurd ((cmp_eq _ _).mpr (ho (by omega))) q2)
      exact hx a s' o' c' _ _ _ hc' hr'
  refine hK [370] _ _ _ _ _ _ ?_
  refine And.intro (rng_of (by omega) (by omega)) ?_
  refine And.intro ⟨by omega, by omega⟩ ?_
  refine ⟨s, o, c, a, _, rfl, rfl, hc, hs _, ?_⟩
  exact ⟨fun e c' o' hc' ho => tail 0 c' o' hc' (congrArg Int.ofNat e) (fun _ => ho), fun e c' hc' => tail 1 c' o hc' (congrArg Int.ofNat e) (fun z => absurd (e.symm.trans z) (by decide)), fun e c' hc' => tail 2 c' o hc' (congrArg Int.ofNat e) (fun z => absurd (e.symm.trans z) (by decide))⟩
def kW_5 : MC := [(415, .aload_n 1, 1), (416, .aload_n 0, 1), (417, .iload 4, 2), (419, .iconst 1, 1), (420, .iadd, 1), (421, .iaload, 1), (422, .aload_n 0, 1), (423, .iload 4, 2), (425, .iconst 2, 1), (426, .iadd, 1), (427, .iaload, 1), (428, .aload_n 0, 1), (429, .iload 4, 2), (431, .iconst 3, 1), (432, .iadd, 1), (433, .iaload, 1), (434, .aload_n 3, 1), (435, .invokestatic 116, 3), (438, .istore 5, 2), (440, .aload_n 2, 1), (441, .aload_n 0, 1), (442, .iload 4, 2), (444, .iconst 1, 1), (445, .iadd, 1), (446, .iaload, 1), (447, .aload_n 0, 1), (448, .iload 4, 2), (450, .iconst 2, 1), (451, .iadd, 1), (452, .iaload, 1), (453, .aload_n 0, 1), (454, .iload 4, 2), (456, .iconst 3, 1), (457, .iadd, 1), (458, .iaload, 1), (459, .invokevirtual 119, 3), (462, .istore 6, 2), (464, .aload_n 2, 1), (465, .invokevirtual 104, 3), (468, .iload 5, 2), (470, .if_icmp .eq 5, 3), (473, .iconst 0, 1), (474, .ireturn, 1), (475, .iload 5, 2), (477, .ifCond .ne 15, 3), (480, .aload_n 3, 1), (481, .iconst 0, 1), (482, .laload, 1), (483, .iload 6, 2), (485, .i2l, 1), (486, .lcmp, 1), (487, .ifCond .eq 5, 3), (490, .iconst 0, 1), (491, .ireturn, 1), (492, .goto 1460, 3)]
theorem kW_5_ok : ∀ q ∈ kW_5, decode code q.1 = .ok (q.2.1, q.2.2) := by decide +kernel
theorem wl_element : mm_Yl yL_element cL_element 6 (mm_hh 1 12 15 0) 5 := ⟨tb4 (i := 107) rfl rfl, tb1 (i := 0) rfl rfl, ⟨by decide, by decide, by decide +kernel⟩, tb4 (i := 106) rfl rfl⟩
abbrev ctW_5 : List (Nat × CE) := [(116, (5, 3, 18, false, (1, 0), T_L_element)), (119, (4, 0, 0, false, (0, 10), T_X10_element)), (104, (1, 0, 0, false, (0, 10), T_X10_thrown))]
theorem cW_5 (l : Launch) (hl : l.stackTraces = false) : ∀ (i : Nat) (q : CE), mm_look ctW_5 i = some q → mm_CA l RL 60 i q := mm_ca_cons (Or.inr (Or.inl (mm_cls wl_element (tb4 (i := 105) rfl rfl) (m_L_element l hl) (by decide) (by decide) rfl))) (mm_ca_cons (Or.inl (mm_cbv wi_X10_element (tb7 (i := 138) rfl rfl) (m_X10_element l) (by decide) (by decide) rfl)) (mm_ca_cons (Or.inl (mm_cbv wi_X10_thrown (tb6 (i := 161) rfl rfl) (m_X10_thrown l) (by decide) (by decide) rfl)) (mm_ca_nil)))
set_option maxHeartbeats 4000000 in
theorem lc_5 {K : Nat → LV → List MV → HP → Nat → Nat → Prop} {L : Nat} {xs : Nat → Int32} (hL3 : L ≤ 3072) {i : Nat} (hi : i + 6 ≤ L) (hK : mm_Cl (eLaw ctW_5 [] 3 18 [(2002, (L, scr xs))] true) kW_5 lawN (fun _ _ => False) K) {a : AS} {s : RS} {o : Int → Int64} {c : CS} (hc : CR a c) (hr : RR a s) (hx : ∀ (a' : AS) (s' : RS) (o' : Int → Int64) (c' : CS) (o5 o6 o7 : Option MV), CR a' c' → RR a' s' → K 1952 [some (mR 2002), some (mR 0), some (mR 1000), some (mR 1029), some (mI (i : Int)), o5, o6, o7] [] (hL s' o' c') 3 18) (o5 o6 o7 : Option MV) : K 415 [some (mR 2002), some (mR 0), some (mR 1000), some (mR 1029), some (mI (i : Int)), o5, o6, o7] [] (hL s o c) 0 0 := by
  have hs : ∀ k : Int, mm_rng (scr xs k) := fun k => i32_rng _
  have tail : ∀ (k : Int) (c' : CS) (o' : Int → Int64), CR a c' → ((((xElement (aF a) (scr xs ((i : Int) + 1)) (scr xs ((i : Int) + 2)) (scr xs ((i : Int) + 3)))).1 : Nat) : Int) = k → (((xElement (aF a) (scr xs ((i : Int) + 1)) (scr xs ((i : Int) + 2)) (scr xs ((i : Int) + 3)))).1 = 0 → o' 0 = Int64.ofInt ((xElement (aF a) (scr xs ((i : Int) + 1)) (scr xs ((i : Int) + 2)) (scr xs ((i : Int) + 3)))).2) → K 438 [some (mR 2002), some (mR 0), some (mR 1000), some (mR 1029), some (mI (i : Int)), o5, o6, o7] [mI k] (hL s o' c') 3 18 := by
    intro k c' o' hc' hk ho
    refine hK [1952] _ _ _ _ _ _ ?_
    refine And.intro (rng_of (by omega) (by omega)) ?_
    refine And.intro ⟨by omega, by omega⟩ ?_
    refine And.intro (rng_of (by omega) (by omega)) ?_
    refine And.intro ⟨by omega, by omega⟩ ?_
    refine And.intro (rng_of (by omega) (by omega)) ?_
    refine And.intro ⟨by omega, by omega⟩ ?_
    refine ⟨(none, CH c', [eL 1 o'], 24, c'.2.2.2.1), s, a, _, _, _, rfl, rfl, hr, hs _, hs _, hs _, fun s' hr' hcode => ?_⟩
    refine ⟨(none, CH c', [eL 1 o'], 24, c'.2.2.2.1), s', rfl, rfl, ?_⟩
    conv => whnf
    rw [hcode]
    refine And.intro (fun _ => ?_) (fun q => absurd hk q)
    refine And.intro (fun q => ?_) (fun q => ?_)
    · exact hx a s' o' c' _ _ _ hc' hr'
    · refine And.intro ⟨by decide, by decide⟩ ?_
      refine And.intro (fun _ => ?_) (fun q2 => absurd ((cmp_eq _ _).mpr (ho (by omega))) q2)
      exact hx a s' o' c' _ _ _ hc' hr'
  refine hK [438] _ _ _ _ _ _ ?_
  refine And.intro (rng_of (by omega) (by omega)) ?_
  refine And.intro ⟨by omega, by omega⟩ ?_
  refine And.intro (rng_of (by omega) (by omega)) ?_
  refine And.intro ⟨by omega, by omega⟩ ?_
  refine And.intro (rng_of (by omega) (by omega)) ?_
  refine And.intro ⟨by omega, by omega⟩ ?_
  refine ⟨s, o, c, a, _, _, _, rfl, rfl, hc, ?_⟩
  exact ⟨fun e c' o' hc' ho => tail 0 c' o' hc' (congrArg Int.ofNat e) (fun _ => ho), fun e c' hc' => tail 1 c' o hc' (congrArg Int.ofNat e) (fun z => absurd (e.symm.trans z) (by decide)), fun e c' hc' => tail 2 c' o hc' (congrArg Int.ofNat e) (fun z => absurd (e.symm.trans z) (by decide))⟩
def kW_6 : MC := [(495, .aload_n 1, 1), (496, .aload_n 0, 1), (497, .iload 4, 2), (499, .iconst 1, 1), (500, .iadd, 1), (501, .iaload, 1), (502, .aload_n 3, 1), (503, .invokestatic 120, 3), (506, .istore 5, 2), (508, .aload_n 2, 1), (509, .aload_n 0, 1), (510, .iload 4, 2), (512, .iconst 1, 1), (513, .iadd, 1), (514, .iaload, 1), (515, .invokevirtual 122, 3), (518, .istore 6, 2), (520, .aload_n 2, 1), (521, .invokevirtual 104, 3), (524, .iload 5, 2), (526, .if_icmp .eq 5, 3), (529, .iconst 0, 1), (530, .ireturn, 1), (531, .iload 5, 2), (533, .ifCond .ne 15, 3), (536, .aload_n 3, 1), (537, .iconst 0, 1), (538, .laload, 1), (539, .iload 6, 2), (541, .i2l, 1), (542, .lcmp, 1), (543, .ifCond .eq 5, 3), (546, .iconst 0, 1), (547, .ireturn, 1), (548, .goto 1404, 3)]
theorem kW_6_ok : ∀ q ∈ kW_6, decode code q.1 = .ok (q.2.1, q.2.2) := by decide +kernel
theorem wl_log : mm_Yl yL_log cL_log 4 (mm_hh 1 9 12 0) 3 := ⟨tb4 (i := 124) rfl rfl, tb1 (i := 0) rfl rfl, ⟨by decide, by decide, by decide +kernel⟩, tb4 (i := 123) rfl rfl⟩
abbrev ctW_6 : List (Nat × CE) := [(120, (3, 2, 12, false, (1, 0), T_L_log)), (122, (2, 0, 0, false, (0, 10), T_X10_log)), (104, (1, 0, 0, false, (0, 10), T_X10_thrown))]
theorem cW_6 (l : Launch) (hl : l.stackTraces = false) : ∀ (i : Nat) (q : CE), mm_look ctW_6 i = some q → mm_CA l RL 60 i q := mm_ca_cons (Or.inr (Or.inl (mm_cls wl_log (tb4 (i := 122) rfl rfl) (m_L_log l hl) (by decide) (by decide) rfl))) (mm_ca_cons (Or.inl (mm_cbv wi_X10_log (tb7 (i := 151) rfl rfl) (m_X10_log l) (by decide) (by decide) rfl)) (mm_ca_cons (Or.inl (mm_cbv wi_X10_thrown (tb6 (i := 161) rfl rfl) (m_X10_thrown l) (by decide) (by decide) rfl)) (mm_ca_nil)))
set_option maxHeartbeats 4000000 in
theorem lc_6 {K : Nat → LV → List MV → HP → Nat → Nat → Prop} {L : Nat} {xs : Nat → Int32} (hL3 : L ≤ 3072) {i : Nat} (hi : i + 6 ≤ L) (hK : mm_Cl (eLaw ctW_6 [] 2 12 [(2002, (L, scr xs))] true) kW_6 lawN (fun _ _ => False) K) {a : AS} {s : RS} {o : Int → Int64} {c : CS} (hc : CR a c) (hr : RR a s) (hx : ∀ (a' : AS) (s' : RS) (o' : Int → Int64) (c' : CS) (o5 o6 o7 : Option MV), CR a' c' → RR a' s' → K 1952 [some (mR 2002), some (mR 0), some (mR 1000), some (mR 1029), some (mI (i : Int)), o5, o6, o7] [] (hL s' o' c') 2 12) (o5 o6 o7 : Option MV) : K 495 [some (mR 2002), some (mR 0), some (mR 1000), some (mR 1029), some (mI (i : Int)), o5, o6, o7] [] (hL s o c) 0 0 := by
  have hs : ∀ k : Int, mm_rng (scr xs k) := fun k => i32_rng _
  have tail : ∀ (k : Int) (c' : CS) (o' : Int → Int64), CR a c' → ((((xLog (aF a) (scr xs ((i : Int) + 1)))).1 : Nat) : Int) = k → (((xLog (aF a) (scr xs ((i : Int) + 1)))).1 = 0 → o' 0 = Int64.ofInt ((xLog (aF a) (scr xs ((i : Int) + 1)))).2) → K 506 [some (mR 2002), some (mR 0), some (mR 1000), some (mR 1029), some (mI (i : Int)), o5, o6, o7] [mI k] (hL s o' c') 2 12 := by
    intro k c' o' hc' hk ho
    refine hK [1952] _ _ _ _ _ _ ?_
    refine And.intro (rng_of (by omega) (by omega)) ?_
    refine And.intro ⟨by omega, by omega⟩ ?_
    refine ⟨(none, CH c', [eL 1 o'], 24, c'.2.2.2.1), s, a, _, rfl, rfl, hr, hs _, fun s' hr' hcode => ?_⟩
    refine ⟨(none, CH c', [eL 1 o'], 24, c'.2.2.2.1), s', rfl, rfl, ?_⟩
    conv => whnf
    rw [hcode]
    refine And.intro (fun _ => ?_) (fun q => absurd hk q)
    refine And.intro (fun q => ?_) (fun q => ?_)
    · exact hx a s' o' c' _ _ _ hc' hr'
    · refine And.intro ⟨by decide, by decide⟩ ?_
      refine And.intro (fun _ => ?_) (fun q2 => absurd ((cmp_eq _ _).mpr (ho (by omega))) q2)
      exact hx a s' o' c' _ _ _ hc' hr'
  refine hK [506] _ _ _ _ _ _ ?_
  refine And.intro (rng_of (by omega) (by omega)) ?_
  refine And.intro ⟨by omega, by omega⟩ ?_
  refine ⟨s, o, c, a, _, rfl, rfl, hc, ?_⟩
  exact ⟨fun e c' o' hc' ho => tail 0 c' o' hc' (congrArg Int.ofNat e) (fun _ => ho), fun e c' hc' => tail 1 c' o hc' (congrArg Int.ofNat e) (fun z => absurd (e.symm.trans z) (by decide)), fun e c' hc' => tail 2 c' o hc' (congrArg Int.ofNat e) (fun z => absurd (e.symm.trans z) (by decide))⟩
