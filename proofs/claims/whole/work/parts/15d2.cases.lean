/-! the law's body: cases 14 to 20 -/
def kW_14 : MC := [(1014, .aload_n 1, 1), (1015, .aload_n 0, 1), (1016, .iload 4, 2), (1018, .iconst 1, 1), (1019, .iadd, 1), (1020, .iaload, 1), (1021, .aload_n 0, 1), (1022, .iload 4, 2), (1024, .iconst 2, 1), (1025, .iadd, 1), (1026, .iaload, 1), (1027, .aload_n 0, 1), (1028, .iload 4, 2), (1030, .iconst 3, 1), (1031, .iadd, 1), (1032, .iaload, 1), (1033, .invokevirtual 145, 3), (1036, .aload_n 2, 1), (1037, .aload_n 0, 1), (1038, .iload 4, 2), (1040, .iconst 1, 1), (1041, .iadd, 1), (1042, .iaload, 1), (1043, .aload_n 0, 1), (1044, .iload 4, 2), (1046, .iconst 2, 1), (1047, .iadd, 1), (1048, .iaload, 1), (1049, .aload_n 0, 1), (1050, .iload 4, 2), (1052, .iconst 3, 1), (1053, .iadd, 1), (1054, .iaload, 1), (1055, .invokevirtual 148, 3), (1058, .if_icmp .eq 894, 3), (1061, .iconst 0, 1), (1062, .ireturn, 1)]
theorem kW_14_ok : ∀ q ∈ kW_14, decode code q.1 = .ok (q.2.1, q.2.2) := by decide +kernel
abbrev ctW_14 : List (Nat × CE) := [(145, (4, 0, 0, false, (0, 9), T_X9_divide)), (148, (4, 0, 0, false, (0, 10), T_X10_divide_))]
theorem cW_14 (l : Launch) (hl : l.stackTraces = false) : ∀ (i : Nat) (q : CE), mm_look ctW_14 i = some q → mm_CA l RL 60 i q := mm_ca_cons (Or.inl (mm_cbv wi_X9_divide (tb3 (i := 87) rfl rfl) (m_X9_divide l) (by decide) (by decide) rfl)) (mm_ca_cons (Or.inl (mm_cbv wi_X10_divide_ (tb7 (i := 232) rfl rfl) (m_X10_divide_ l) (by decide) (by decide) rfl)) (mm_ca_nil))
set_option maxHeartbeats 4000000 in
theorem lc_14 {K : Nat → LV → List MV → HP → Nat → Nat → Prop} {L : Nat} {xs : Nat → Int32} (hL3 : L ≤ 3072) {i : Nat} (hi : i + 6 ≤ L) (hK : mm_Cl (eLaw ctW_14 [] 0 0 [(2002, (L, scr xs))] true) kW_14 lawN (fun _ _ => False) K) {a : AS} {s : RS} {o : Int → Int64} {c : CS} (hc : CR a c) (hr : RR a s) (hx : ∀ (a' : AS) (s' : RS) (o' : Int → Int64) (c' : CS) (o5 o6 o7 : Option MV), CR a' c' → RR a' s' → K 1952 [some (mR 2002), some (mR 0), some (mR 1000), some (mR 1029), some (mI (i : Int)), o5, o6, o7] [] (hL s' o' c') 0 0) (o5 o6 o7 : Option MV) : K 1014 [some (mR 2002), some (mR 0), some (mR 1000), some (mR 1029), some (mI (i : Int)), o5, o6, o7] [] (hL s o c) 0 0 := by
  have hs : ∀ k : Int, mm_rng (scr xs k) := fun k => i32_rng _
  refine hK [1952] _ _ _ _ _ _ ?_
  refine And.intro (rng_of (by omega) (by omega)) ?_
  refine And.intro ⟨by omega, by omega⟩ ?_
  refine And.intro (rng_of (by omega) (by omega)) ?_
  refine And.intro ⟨by omega, by omega⟩ ?_
  refine And.intro (rng_of (by omega) (by omega)) ?_
  refine And.intro ⟨by omega, by omega⟩ ?_
  refine ⟨RH s [eL 1 o], c, a, _, _, _, rfl, rfl, hc, fun c' hc' => ?_⟩
  refine And.intro (rng_of (by omega) (by omega)) ?_
  refine And.intro ⟨by omega, by omega⟩ ?_
  refine And.intro (rng_of (by omega) (by omega)) ?_
  refine And.intro ⟨by omega, by omega⟩ ?_
  refine And.intro (rng_of (by omega) (by omega)) ?_
  refine And.intro ⟨by omega, by omega⟩ ?_
  refine ⟨(none, CH c', [eL 1 o], 24, c'.2.2.2.1), s, a, _, _, _, rfl, rfl, hr, hs _, hs _, hs _, fun s' hr' hcode => ?_⟩
  refine And.intro (fun _ => ?_) (fun q => absurd rfl q)
  exact hx _ s' o c' _ _ _ hc' hr'
def kW_15 : MC := [(1063, .aload_n 1, 1), (1064, .aload_n 0, 1), (1065, .iload 4, 2), (1067, .iconst 1, 1), (1068, .iadd, 1), (1069, .iaload, 1), (1070, .aload_n 0, 1), (1071, .iload 4, 2), (1073, .iconst 2, 1), (1074, .iadd, 1), (1075, .iaload, 1), (1076, .aload_n 0, 1), (1077, .iload 4, 2), (1079, .iconst 3, 1), (1080, .iadd, 1), (1081, .iaload, 1), (1082, .aload_n 0, 1), (1083, .iload 4, 2), (1085, .iconst 4, 1), (1086, .iadd, 1), (1087, .iaload, 1), (1088, .aload_n 0, 1), (1089, .iload 4, 2), (1091, .iconst 5, 1), (1092, .iadd, 1), (1093, .iaload, 1), (1094, .aload_n 3, 1), (1095, .invokestatic 149, 3), (1098, .istore 5, 2), (1100, .aload_n 2, 1), (1101, .aload_n 0, 1), (1102, .iload 4, 2), (1104, .iconst 1, 1), (1105, .iadd, 1), (1106, .iaload, 1), (1107, .aload_n 0, 1), (1108, .iload 4, 2), (1110, .iconst 2, 1), (1111, .iadd, 1), (1112, .iaload, 1), (1113, .aload_n 0, 1), (1114, .iload 4, 2), (1116, .iconst 3, 1), (1117, .iadd, 1), (1118, .iaload, 1), (1119, .aload_n 0, 1), (1120, .iload 4, 2), (1122, .iconst 4, 1), (1123, .iadd, 1), (1124, .iaload, 1), (1125, .aload_n 0, 1), (1126, .iload 4, 2), (1128, .iconst 5, 1), (1129, .iadd, 1), (1130, .iaload, 1), (1131, .invokevirtual 152, 3), (1134, .istore 6, 2), (1136, .aload_n 2, 1), (1137, .invokevirtual 104, 3), (1140, .iload 5, 2), (1142, .if_icmp .eq 5, 3), (1145, .iconst 0, 1), (1146, .ireturn, 1), (1147, .iload 5, 2), (1149, .ifCond .ne 15, 3), (1152, .aload_n 3, 1), (1153, .iconst 0, 1), (1154, .laload, 1), (1155, .iload 6, 2), (1157, .i2l, 1), (1158, .lcmp, 1), (1159, .ifCond .eq 5, 3), (1162, .iconst 0, 1), (1163, .ireturn, 1), (1164, .goto 788, 3)]
theorem kW_15_ok : ∀ q ∈ kW_15, decode code q.1 = .ok (q.2.1, q.2.2) := by decide +kernel
theorem wl_solutions : mm_Yl yL_solutions cL_solutions 8 (mm_hh 2 16 19 23) 7 := ⟨tb4 (i := 216) rfl rfl, tb1 (i := 0) rfl rfl, ⟨by decide, by decide, by decide +kernel⟩, tb4 (i := 215) rfl rfl⟩
abbrev ctW_15 : List (Nat × CE) := [(149, (7, 5, 30, false, (1, 0), T_L_solutions)), (152, (6, 0, 0, false, (0, 10), T_X10_solutions)), (104, (1, 0, 0, false, (0, 10), T_X10_thrown))]
theorem cW_15 (l : Launch) (hl : l.stackTraces = false) : ∀ (i : Nat) (q : CE), mm_look ctW_15 i = some q → mm_CA l RL 60 i q := mm_ca_cons (Or.inr (Or.inl (mm_cls wl_solutions (tb4 (i := 214) rfl rfl) (m_L_solutions l hl) (by decide) (by decide) rfl))) (mm_ca_cons (Or.inl (mm_cbv wi_X10_solutions (tb7 (i := 236) rfl rfl) (m_X10_solutions l) (by decide) (by decide) rfl)) (mm_ca_cons (Or.inl (mm_cbv wi_X10_thrown (tb6 (i := 161) rfl rfl) (m_X10_thrown l) (by decide) (by decide) rfl)) (mm_ca_nil)))
set_option maxHeartbeats 4000000 in
theorem lc_15 {K : Nat → LV → List MV → HP → Nat → Nat → Prop} {L : Nat} {xs : Nat → Int32} (hL3 : L ≤ 3072) {i : Nat} (hi : i + 6 ≤ L) (hK : mm_Cl (eLaw ctW_15 [] 5 30 [(2002, (L, scr xs))] true) kW_15 lawN (fun _ _ => False) K) {a : AS} {s : RS} {o : Int → Int64} {c : CS} (hc : CR a c) (hr : RR a s) (hx : ∀ (a' : AS) (s' : RS) (o' : Int → Int64) (c' : CS) (o5 o6 o7 : Option MV), CR a' c' → RR a' s' → K 1952 [some (mR 2002), some (mR 0), some (mR 1000), some (mR 1029), some (mI (i : Int)), o5, o6, o7] [] (hL s' o' c') 5 30) (o5 o6 o7 : Option MV) : K 1063 [some (mR 2002), some (mR 0), some (mR 1000), some (mR 1029), some (mI (i : Int)), o5, o6, o7] [] (hL s o c) 0 0 := by
  have hs : ∀ k : Int, mm_rng (scr xs k) := fun k => i32_rng _
  have tail : ∀ (k : Int) (c' : CS) (o' : Int → Int64), CR a c' → ((((xSolutions (aF a) (scr xs ((i : Int) + 1)) (scr xs ((i : Int) + 2)) (scr xs ((i : Int) + 3)) (scr xs ((i : Int) + 4)) (scr xs ((i : Int) + 5)))).1 : Nat) : Int) = k → (((xSolutions (aF a) (scr xs ((i : Int) + 1)) (scr xs ((i : Int) + 2)) (scr xs ((i : Int) + 3)) (scr xs ((i : Int) + 4)) (scr xs ((i : Int) + 5)))).1 = 0 → o' 0 = Int64.ofInt ((xSolutions (aF a) (scr xs ((i : Int) + 1)) (scr xs ((i : Int) + 2)) (scr xs ((i : Int) + 3)) (scr xs ((i : Int) + 4)) (scr xs ((i : Int) + 5)))).2) → K 1098 [some (mR 2002), some (mR 0), some (mR 1000), some (mR 1029), some (mI (i : Int)), o5, o6, o7] [mI k] (hL s o' c') 5 30 := by
    intro k c' o' hc' hk ho
    refine hK [1952] _ _ _ _ _ _ ?_
    refine And.intro (rng_of (by omega) (by omega)) ?_
    refine And.intro ⟨by omega, by omega⟩ ?_
    refine And.intro (rng_of (by omega) (by omega)) ?_
    refine And.intro ⟨by omega, by omega⟩ ?_
    refine And.intro (rng_of (by omega) (by omega)) ?_
    refine And.intro ⟨by omega, by omega⟩ ?_
    refine And.intro (rng_of (by omega) (by omega)) ?_
    refine And.intro ⟨by omega, by omega⟩ ?_
    refine And.intro (rng_of (by omega) (by omega)) ?_
    refine And.intro ⟨by omega, by omega⟩ ?_
    refine ⟨(none, CH c', [eL 1 o'], 24, c'.2.2.2.1), s, a, _, _, _, _, _, rfl, rfl, hr, hs _, hs _, hs _, hs _, hs _, fun s' hr' hcode => ?_⟩
    refine ⟨(none, CH c', [eL 1 o'], 24, c'.2.2.2.1), s', rfl, rfl, ?_⟩
    conv => whnf
    rw [hcode]
    refine And.intro (fun _ => ?_) (fun q => absurd hk q)
    refine And.intro (fun q => ?_) (fun q => ?_)
    · exact hx a s' o' c' _ _ _ hc' hr'
    · refine And.intro ⟨by decide, by decide⟩ ?_
      refine And.intro (fun _ => ?_) (fun q2 => absurd ((cmp_eq _ _).mpr (ho (by omega))) q2)
      exact hx a s' o' c' _ _ _ hc' hr'
  refine hK [1098] _ _ _ _ _ _ ?_
  refine And.intro (rng_of (by omega) (by omega)) ?_
  refine And.intro ⟨by omega, by omega⟩ ?_
  refine And.intro (rng_of (by omega) (by omega)) ?_
  refine And.intro ⟨by omega, by omega⟩ ?_
  refine And.intro (rng_of (by omega) (by omega)) ?_
  refine And.intro ⟨by omega, by omega⟩ ?_
  refine And.intro (rng_of (by omega) (by omega)) ?_
  refine And.intro ⟨by omega, by omega⟩ ?_
  refine And.intro (rng_of (by omega) (by omega)) ?_
  refine And.intro ⟨by omega, by omega⟩ ?_
  refine ⟨s, o, c, a, _, _, _, _, _, rfl, rfl, hc, ?_⟩
  exact ⟨fun e c' o' hc' ho => tail 0 c' o' hc' (congrArg Int.ofNat e) (fun _ => ho), fun e c' hc' => tail 1 c' o hc' (congrArg Int.ofNat e) (fun z => absurd (e.symm.trans z) (by decide)), fun e c' hc' => tail 2 c' o hc' (congrArg Int.ofNat e) (fun z => absurd (e.symm.trans z) (by decide))⟩
def kW_16 : MC := [(1167, .aload_n 1, 1), (1168, .aload_n 0, 1), (1169, .iload 4, 2), (1171, .iconst 1, 1), (1172, .iadd, 1), (1173, .iaload, 1), (1174, .aload_n 0, 1), (1175, .iload 4, 2), (1177, .iconst 2, 1), (1178, .iadd, 1), (1179, .iaload, 1), (1180, .aload_n 0, 1), (1181, .iload 4, 2), (1183, .iconst 3, 1), (1184, .iadd, 1), (1185, .iaload, 1), (1186, .aload_n 0, 1), (1187, .iload 4, 2), (1189, .iconst 4, 1), (1190, .iadd, 1), (1191, .iaload, 1), (1192, .aload_n 3, 1), (1193, .invokestatic 153, 3), (1196, .istore 5, 2), (1198, .aload_n 2, 1), (1199, .aload_n 0, 1), (1200, .iload 4, 2), (1202, .iconst 1, 1), (1203, .iadd, 1), (1204, .iaload, 1), (1205, .aload_n 0, 1), (1206, .iload 4, 2), (1208, .iconst 2, 1), (1209, .iadd, 1), (1210, .iaload, 1), (1211, .aload_n 0, 1), (1212, .iload 4, 2), (1214, .iconst 3, 1), (1215, .iadd, 1), (1216, .iaload, 1), (1217, .aload_n 0, 1), (1218, .iload 4, 2), (1220, .iconst 4, 1), (1221, .iadd, 1), (1222, .iaload, 1), (1223, .invokevirtual 156, 3), (1226, .istore 6, 2), (1228, .aload_n 2, 1), (1229, .invokevirtual 104, 3), (1232, .iload 5, 2), (1234, .if_icmp .eq 5, 3), (1237, .iconst 0, 1), (1238, .ireturn, 1), (1239, .iload 5, 2), (1241, .ifCond .ne 15, 3), (1244, .aload_n 3, 1), (1245, .iconst 0, 1), (1246, .laload, 1), (1247, .iload 6, 2), (1249, .i2l, 1), (1250, .lcmp, 1), (1251, .ifCond .eq 5, 3), (1254, .iconst 0, 1), (1255, .ireturn, 1), (1256, .goto 696, 3)]
theorem kW_16_ok : ∀ q ∈ kW_16, decode code q.1 = .ok (q.2.1, q.2.2) := by decide +kernel
theorem wl_points : mm_Yl yL_points cL_points 7 (mm_hh 2 14 17 21) 6 := ⟨tb5 (i := 4) rfl rfl, tb1 (i := 0) rfl rfl, ⟨by decide, by decide, by decide +kernel⟩, tb5 (i := 3) rfl rfl⟩
abbrev ctW_16 : List (Nat × CE) := [(153, (6, 4, 24, false, (1, 0), T_L_points)), (156, (5, 0, 0, false, (0, 10), T_X10_points)), (104, (1, 0, 0, false, (0, 10), T_X10_thrown))]
theorem cW_16 (l : Launch) (hl : l.stackTraces = false) : ∀ (i : Nat) (q : CE), mm_look ctW_16 i = some q → mm_CA l RL 60 i q := mm_ca_cons (Or.inr (Or.inl (mm_cls wl_points (tb5 (i := 2) rfl rfl) (m_L_points l hl) (by decide) (by decide) rfl))) (mm_ca_cons (Or.inl (mm_cbv wi_X10_points (tb8 (i := 1) rfl rfl) (m_X10_points l) (by decide) (by decide) rfl)) (mm_ca_cons (Or.inl (mm_cbv wi_X10_thrown (tb6 (i := 161) rfl rfl) (m_X10_thrown l) (by decide) (by decide) rfl)) (mm_ca_nil)))
set_option maxHeartbeats 4000000 in
theorem lc_16 {K : Nat → LV → List MV → HP → Nat → Nat → Prop} {L : Nat} {xs : Nat → Int32} (hL3 : L ≤ 3072) {i : Nat} (hi : i + 6 ≤ L) (hK : mm_Cl (eLaw ctW_16 [] 4 24 [(2002, (L, scr xs))] true) kW_16 lawN (fun _ _ => False) K) {a : AS} {s : RS} {o : Int → Int64} {c : CS} (hc : CR a c) (hr : RR a s) (hx : ∀ (a' : AS) (s' : RS) (o' : Int → Int64) (c' : CS) (o5 o6 o7 : Option MV), CR a' c' → RR a' s' → K 1952 [some (mR 2002), some (mR 0), some (mR 1000), some (mR 1029), some (mI (i : Int)), o5, o6, o7] [] (hL s' o' c') 4 24) (o5 o6 o7 : Option MV) : K 1167 [some (mR 2002), some (mR 0), some (mR 1000), some (mR 1029), some (mI (i : Int)), o5, o6, o7] [] (hL s o c) 0 0 := by
  have hs : ∀ k : Int, mm_rng (scr xs k) := fun k => i32_rng _
  have tail : ∀ (k : Int) (c' : CS) (o' : Int → Int64), CR a c' → ((((xPoints (aF a) (scr xs ((i : Int) + 1)) (scr xs ((i : Int) + 2)) (scr xs ((i : Int) + 3)) (scr xs ((i : Int) + 4)))).1 : Nat) : Int) = k → (((xPoints (aF a) (scr xs ((i : Int) + 1)) (scr xs ((i : Int) + 2)) (scr xs ((i : Int) + 3)) (scr xs ((i : Int) + 4)))).1 = 0 → o' 0 = Int64.ofInt ((xPoints (aF a) (scr xs ((i : Int) + 1)) (scr xs ((i : Int) + 2)) (scr xs ((i : Int) + 3)) (scr xs ((i : Int) + 4)))).2) → K 1196 [some (mR 2002), some (mR 0), some (mR 1000), some (mR 1029), some (mI (i : Int)), o5, o6, o7] [mI k] (hL s o' c') 4 24 := by
    intro k c' o' hc' hk ho
    refine hK [1952] _ _ _ _ _ _ ?_
    refine And.intro (rng_of (by omega) (by omega)) ?_
    refine And.intro ⟨by omega, by omega⟩ ?_
    refine And.intro (rng_of (by omega) (by omega)) ?_
    refine And.intro ⟨by omega, by omega⟩ ?_
    refine And.intro (rng_of (by omega) (by omega)) ?_
    refine And.intro ⟨by omega, by omega⟩ ?_
    refine And.intro (rng_of (by omega) (by omega)) ?_
    refine And.intro ⟨by omega, by omega⟩ ?_
    refine ⟨(none, CH c', [eL 1 o'], 24, c'.2.2.2.1), s, a, _, _, _, _, rfl, rfl, hr, hs _, hs _, hs _, hs _, fun s' hr' hcode => ?_⟩
    refine ⟨(none, CH c', [eL 1 o'], 24, c'.2.2.2.1), s', rfl, rfl, ?_⟩
    conv => whnf
    rw [hcode]
    refine And.intro (fun _ => ?_) (fun q => absurd hk q)
    refine And.intro (fun q => ?_) (fun q => ?_)
    · exact hx a s' o' c' _ _ _ hc' hr'
    · refine And.intro ⟨by decide, by decide⟩ ?_
      refine And.intro (fun _ => ?_) (fun q2 => absurd ((cmp_eq _ _).mpr (ho (by omega))) q2)
      exact hx a s' o' c' _ _ _ hc' hr'
  refine hK [1196] _ _ _ _ _ _ ?_
  refine And.intro (rng_of (by omega) (by omega)) ?_
  refine And.intro ⟨by omega, by omega⟩ ?_
  refine And.intro (rng_of (by omega) (by omega)) ?_
  refine And.intro ⟨by omega, by omega⟩ ?_
  refine And.intro (rng_of (by omega) (by omega)) ?_
  refine And.intro ⟨by omega, by omega⟩ ?_
  refine And.intro (rng_of (by omega) (by omega)) ?_
  refine And.intro ⟨by omega, by omega⟩ ?_
  refine ⟨s, o, c, a, _, _, _, _, rfl, rfl, hc, ?_⟩
  exact ⟨fun e c' o' hc' ho => tail 0 c' o' hc' (congrArg Int.ofNat e) (fun _ => ho), fun e c' hc' => tail 1 c' o hc' (congrArg Int.ofNat e) (fun z => absurd (e.symm.trans z) (by decide)), fun e c' hc' => tail 2 c' o hc' (congrArg Int.ofNat e) (fun z => absurd (e.symm.trans z) (by decide))⟩
def kW_17 : MC := [(1259, .aload_n 1, 1), (1260, .aload_n 0, 1), (1261, .iload 4, 2), (1263, .iconst 1, 1), (1264, .iadd, 1), (1265, .iaload, 1), (1266, .aload_n 0, 1), (1267, .iload 4, 2), (1269, .iconst 2, 1), (1270, .iadd, 1), (1271, .iaload, 1), (1272, .aload_n 0, 1), (1273, .iload 4, 2), (1275, .iconst 3, 1), (1276, .iadd, 1), (1277, .iaload, 1), (1278, .aload_n 3, 1), (1279, .invokestatic 157, 3), (1282, .istore 5, 2), (1284, .aload_n 2, 1), (1285, .aload_n 0, 1), (1286, .iload 4, 2), (1288, .iconst 1, 1), (1289, .iadd, 1), (1290, .iaload, 1), (1291, .aload_n 0, 1), (1292, .iload 4, 2), (1294, .iconst 2, 1), (1295, .iadd, 1), (1296, .iaload, 1), (1297, .aload_n 0, 1), (1298, .iload 4, 2), (1300, .iconst 3, 1), (1301, .iadd, 1), (1302, .iaload, 1), (1303, .invokevirtual 159, 3), (1306, .istore 6, 2), (1308, .aload_n 2, 1), (1309, .invokevirtual 104, 3), (1312, .iload 5, 2), (1314, .if_icmp .eq 5, 3), (1317, .iconst 0, 1), (1318, .ireturn, 1), (1319, .iload 5, 2), (1321, .ifCond .ne 15, 3), (1324, .aload_n 3, 1), (1325, .iconst 0, 1), (1326, .laload, 1), (1327, .iload 6, 2), (1329, .i2l, 1), (1330, .lcmp, 1), (1331, .ifCond .eq 5, 3), (1334, .iconst 0, 1), (1335, .ireturn, 1), (1336, .goto 616, 3)]
theorem kW_17_ok : ∀ q ∈ kW_17, decode code q.1 = .ok (q.2.1, q.2.2) := by decide +kernel
theorem wl_rows : mm_Yl yL_rows cL_rows 6 (mm_hh 2 12 15 19) 5 := ⟨tb5 (i := 11) rfl rfl, tb1 (i := 0) rfl rfl, ⟨by decide, by decide, by decide +kernel⟩, tb5 (i := 10) rfl rfl⟩
abbrev ctW_17 : List (Nat × CE) := [(157, (5, 3, 18, false, (1, 0), T_L_rows)), (159, (4, 0, 0, false, (0, 10), T_X10_rows)), (104, (1, 0, 0, false, (0, 10), T_X10_thrown))]
theorem cW_17 (l : Launch) (hl : l.stackTraces = false) : ∀ (i : Nat) (q : CE), mm_look ctW_17 i = some q → mm_CA l RL 60 i q := mm_ca_cons (Or.inr (Or.inl (mm_cls wl_rows (tb5 (i := 9) rfl rfl) (m_L_rows l hl) (by decide) (by decide) rfl))) (mm_ca_cons (Or.inl (mm_cbv wi_X10_rows (tb8 (i := 9) rfl rfl) (m_X10_rows l) (by decide) (by decide) rfl)) (mm_ca_cons (Or.inl (mm_cbv wi_X10_thrown (tb6 (i := 161) rfl rfl) (m_X10_thrown l) (by decide) (by decide) rfl)) (mm_ca_nil)))
set_option maxHeartbeats 4000000 in
theorem lc_17 {K : Nat → LV → List MV → HP → Nat → Nat → Prop} {L : Nat} {xs : Nat → Int32} (hL3 : L ≤ 3072) {i : Nat} (hi : i + 6 ≤ L) (hK : mm_Cl (eLaw ctW_17 [] 3 18 [(2002, (L, scr xs))] true) kW_17 lawN (fun _ _ => False) K) {a : AS} {s : RS} {o : Int → Int64} {c : CS} (hc : CR a c) (hr : RR a s) (hx : ∀ (a' : AS) (s' : RS) (o' : Int → Int64) (c' : CS) (o5 o6 o7 : Option MV), CR a' c' → RR a' s' → K 1952 [some (mR 2002), some (mR 0), some (mR 1000), some (mR 1029), some (mI (i : Int)), o5, o6, o7] [] (hL s' o' c') 3 18) (o5 o6 o7 : Option MV) : K 1259 [some (mR 2002), some (mR 0), some (mR 1000), some (mR 1029), some (mI (i : Int)), o5, o6, o7] [] (hL s o c) 0 0 := by
  have hs : ∀ k : Int, mm_rng (scr xs k) := fun k => i32_rng _
  have tail : ∀ (k : Int) (c' : CS) (o' : Int → Int64), CR a c' → ((((xRows (aF a) (scr xs ((i : Int) + 1)) (scr xs ((i : Int) + 2)) (scr xs ((i : Int) + 3)))).1 : Nat) : Int) = k → (((xRows (aF a) (scr xs ((i : Int) + 1)) (scr xs ((i : Int) + 2)) (scr xs ((i : Int) + 3)))).1 = 0 → o' 0 = Int64.ofInt ((xRows (aF a) (scr xs ((i : Int) + 1)) (scr xs ((i : Int) + 2)) (scr xs ((i : Int) + 3)))).2) → K 1282 [some (mR 2002), some (mR 0), some (mR 1000), some (mR 1029), some (mI (i : Int)), o5, o6, o7] [mI k] (hL s o' c') 3 18 := by
    intro k c' o' hc' hk ho
    refine hK [1952] _ _ _ _ _ _ ?_
    refine And.intro (rng_of (by omega) (by omega)) ?_
    refine And.intro ⟨by omega, by omega⟩ ?_
    refine And.intro (rng_of (by omega) (by omega)) ?_
    refine And.intro ⟨by omega, by omega⟩ ?_
    refine And.intro (rng_of (by omega) (by omega)) ?_
    refine And.intro ⟨by omega, by omega⟩ ?_
    refine ⟨(none, CH c', [eL 1 o'], 24, c'.2.2.2.1), s, a, _, _, _, rfl, rfl, hr, hs _, hs _, hs _, fun s' hr' hcode => ?_⟩
    refine ⟨(none, CH c', [eL 1 o'], 24, c'.2.2.2.1), s', rfl, rfl, ?_⟩
    conv => whnf
    rw [hcode]
    refine And.intro (fun _ => ?_) (fun q => absurd hk q)
    refine And.intro (fun q => ?_) (fun q => ?_)
    · exact hx a s' o' c' _ _ _ hc' hr'
    · refine And.intro ⟨by decide, by decide⟩ ?_
      refine And.intro (fun _ => ?_) (fun q2 => absurd ((cmp_eq _ _).mpr (ho (by omega))) q2)
      exact hx a s' o' c' _ _ _ hc' hr'
  refine hK [1282] _ _ _ _ _ _ ?_
  refine And.intro (rng_of (by omega) (by omega)) ?_
  refine And.intro ⟨by omega, by omega⟩ ?_
  refine And.intro (rng_of (by omega) (by omega)) ?_
  refine And.intro ⟨by omega, by omega⟩ ?_
  refine And.intro (rng_of (by omega) (by omega)) ?_
  refine And.intro ⟨by omega, by omega⟩ ?_
  refine ⟨s, o, c, a, _, _, _, rfl, rfl, hc, ?_⟩
  exact ⟨fun e c' o' hc' ho => tail 0 c' o' hc' (congrArg Int.ofNat e) (fun _ => ho), fun e c' hc' => tail 1 c' o hc' (congrArg Int.ofNat e) (fun z => absurd (e.symm.trans z) (by decide)), fun e c' hc' => tail 2 c' o hc' (congrArg Int.ofNat e) (fun z => absurd (e.symm.trans z) (by decide))⟩
def kW_18 : MC := [(1339, .aload_n 1, 1), (1340, .aload_n 0, 1), (1341, .iload 4, 2), (1343, .iconst 1, 1), (1344, .iadd, 1), (1345, .iaload, 1), (1346, .aload_n 0, 1), (1347, .iload 4, 2), (1349, .iconst 2, 1), (1350, .iadd, 1), (1351, .iaload, 1), (1352, .aload_n 0, 1), (1353, .iload 4, 2), (1355, .iconst 3, 1), (1356, .iadd, 1), (1357, .iaload, 1), (1358, .aload_n 3, 1), (1359, .invokestatic 160, 3), (1362, .istore 5, 2), (1364, .aload_n 2, 1), (1365, .aload_n 0, 1), (1366, .iload 4, 2), (1368, .iconst 1, 1), (1369, .iadd, 1), (1370, .iaload, 1), (1371, .aload_n 0, 1), (1372, .iload 4, 2), (1374, .iconst 2, 1), (1375, .iadd, 1), (1376, .iaload, 1), (1377, .aload_n 0, 1), (1378, .iload 4, 2), (1380, .iconst 3, 1), (1381, .iadd, 1), (1382, .iaload, 1), (1383, .invokevirtual 162, 3), (1386, .istore 6, 2), (1388, .aload_n 2, 1), (1389, .invokevirtual 104, 3), (1392, .iload 5, 2), (1394, .if_icmp .eq 5, 3), (1397, .iconst 0, 1), (1398, .ireturn, 1), (1399, .iload 5, 2), (1401, .ifCond .ne 15, 3), (1404, .aload_n 3, 1), (1405, .iconst 0, 1), (1406, .laload, 1), (1407, .iload 6, 2), (1409, .i2l, 1), (1410, .lcmp, 1), (1411, .ifCond .eq 5, 3), (1414, .iconst 0, 1), (1415, .ireturn, 1), (1416, .goto 536, 3)]
theorem kW_18_ok : ∀ q ∈ kW_18, decode code q.1 = .ok (q.2.1, q.2.2) := by decide +kernel
theorem wl_lifted : mm_Yl yL_lifted cL_lifted 6 (mm_hh 0 12 15 0) 5 := ⟨tb5 (i := 19) rfl rfl, tb1 (i := 0) rfl rfl, ⟨by decide, by decide, by decide +kernel⟩, tb5 (i := 18) rfl rfl⟩
abbrev ctW_18 : List (Nat × CE) := [(160, (5, 1, 6, false, (1, 0), T_L_lifted)), (162, (4, 0, 0, false, (0, 10), T_X10_lifted)), (104, (1, 0, 0, false, (0, 10), T_X10_thrown))]
theorem cW_18 (l : Launch) (hl : l.stackTraces = false) : ∀ (i : Nat) (q : CE), mm_look ctW_18 i = some q → mm_CA l RL 60 i q := mm_ca_cons (Or.inr (Or.inl (mm_cls wl_lifted (tb5 (i := 17) rfl rfl) (m_L_lifted l hl) (by decide) (by decide) rfl))) (mm_ca_cons (Or.inl (mm_cbv wi_X10_lifted (tb8 (i := 22) rfl rfl) (m_X10_lifted l) (by decide) (by decide) rfl)) (mm_ca_cons (Or.inl (mm_cbv wi_X10_thrown (tb6 (i := 161) rfl rfl) (m_X10_thrown l) (by decide) (by decide) rfl)) (mm_ca_nil)))
set_option maxHeartbeats 4000000 in
theorem lc_18 {K : Nat → LV → List MV → HP → Nat → Nat → Prop} {L : Nat} {xs : Nat → Int32} (hL3 : L ≤ 3072) {i : Nat} (hi : i + 6 ≤ L) (hK : mm_Cl (eLaw ctW_18 [] 1 6 [(2002, (L, scr xs))] true) kW_18 lawN (fun _ _ => False) K) {a : AS} {s : RS} {o : Int → Int64} {c : CS} (hc : CR a c) (hr : RR a s) (hx : ∀ (a' : AS) (s' : RS) (o' : Int → Int64) (c' : CS) (o5 o6 o7 : Option MV), CR a' c' → RR a' s' → K 1952 [some (mR 2002), some (mR 0), some (mR 1000), some (mR 1029), some (mI (i : Int)), o5, o6, o7] [] (hL s' o' c') 1 6) (o5 o6 o7 : Option MV) : K 1339 [some (mR 2002), some (mR 0), some (mR 1000), some (mR 1029), some (mI (i : Int)), o5, o6, o7] [] (hL s o c) 0 0 := by
  have hs : ∀ k : Int, mm_rng (scr xs k) := fun k => i32_rng _
  have tail : ∀ (k : Int) (c' : CS) (o' : Int → Int64), CR a c' → ((((xLifted (aF a) (scr xs ((i : Int) + 1)) (scr xs ((i : Int) + 2)) (scr xs ((i : Int) + 3)))).1 : Nat) : Int) = k → (((xLifted (aF a) (scr xs ((i : Int) + 1)) (scr xs ((i : Int) + 2)) (scr xs ((i : Int) + 3)))).1 = 0 → o' 0 = Int64.ofInt ((xLifted (aF a) (scr xs ((i : Int) + 1)) (scr xs ((i : Int) + 2)) (scr xs ((i : Int) + 3)))).2) → K 1362 [some (mR 2002), some (mR 0), some (mR 1000), some (mR 1029), some (mI (i : Int)), o5, o6, o7] [mI k] (hL s o' c') 1 6 := by
    intro k c' o' hc' hk ho
    refine hK [1952] _ _ _ _ _ _ ?_
    refine And.intro (rng_of (by omega) (by omega)) ?_
    refine And.intro ⟨by omega, by omega⟩ ?_
    refine And.intro (rng_of (by omega) (by omega)) ?_
    refine And.intro ⟨by omega, by omega⟩ ?_
    refine And.intro (rng_of (by omega) (by omega)) ?_
    refine And.intro ⟨by omega, by omega⟩ ?_
    refine ⟨(none, CH c', [eL 1 o'], 24, c'.2.2.2.1), s, a, _, _, _, rfl, rfl, hr, hs _, hs _, hs _, fun s' hr' hcode => ?_⟩
    refine ⟨(none, CH c', [eL 1 o'], 24, c'.2.2.2.1), s', rfl, rfl, ?_⟩
    conv => whnf
    rw [hcode]
    refine And.intro (fun _ => ?_) (fun q => absurd hk q)
    refine And.intro (fun q => ?_) (fun q => ?_)
    · exact hx a s' o' c' _ _ _ hc' hr'
    · refine And.intro ⟨by decide, by decide⟩ ?_
      refine And.intro (fun _ => ?_) (fun q2 => absurd ((cmp_eq _ _).mpr (ho (by omega))) q2)
      exact hx a s' o' c' _ _ _ hc' hr'
  refine hK [1362] _ _ _ _ _ _ ?_
  refine And.intro (rng_of (by omega) (by omega)) ?_
  refine And.intro ⟨by omega, by omega⟩ ?_
  refine And.intro (rng_of (by omega) (by omega)) ?_
  refine And.intro ⟨by omega, by omega⟩ ?_
  refine And.intro (rng_of (by omega) (by omega)) ?_
  refine And.intro ⟨by omega, by omega⟩ ?_
  refine ⟨s, o, c, a, _, _, _, rfl, rfl, hc, ?_⟩
  exact ⟨fun e c' o' hc' ho => tail 0 c' o' hc' (congrArg Int.ofNat e) (fun _ => ho), fun e c' hc' => tail 1 c' o hc' (congrArg Int.ofNat e) (fun z => absurd (e.symm.trans z) (by decide)), fun e c' hc' => tail 2 c' o hc' (congrArg Int.ofNat e) (fun z => absurd (e.symm.trans z) (by decide))⟩
def kW_19 : MC := [(1419, .aload_n 1, 1), (1420, .aload_n 0, 1), (1421, .iload 4, 2), (1423, .iconst 1, 1), (1424, .iadd, 1), (1425, .iaload, 1), (1426, .aload_n 0, 1), (1427, .iload 4, 2), (1429, .iconst 2, 1), (1430, .iadd, 1), (1431, .iaload, 1), (1432, .aload_n 3, 1), (1433, .invokestatic 163, 3), (1436, .istore 5, 2), (1438, .aload_n 2, 1), (1439, .aload_n 0, 1), (1440, .iload 4, 2), (1442, .iconst 1, 1), (1443, .iadd, 1), (1444, .iaload, 1), (1445, .aload_n 0, 1), (1446, .iload 4, 2), (1448, .iconst 2, 1), (1449, .iadd, 1), (1450, .iaload, 1), (1451, .invokevirtual 165, 3), (1454, .istore 6, 2), (1456, .aload_n 2, 1), (1457, .invokevirtual 104, 3), (1460, .iload 5, 2), (1462, .if_icmp .eq 5, 3), (1465, .iconst 0, 1), (1466, .ireturn, 1), (1467, .iload 5, 2), (1469, .ifCond .ne 15, 3), (1472, .aload_n 3, 1), (1473, .iconst 0, 1), (1474, .laload, 1), (1475, .iload 6, 2), (1477, .i2l, 1), (1478, .lcmp, 1), (1479, .ifCond .eq 5, 3), (1482, .iconst 0, 1), (1483, .ireturn, 1), (1484, .goto 468, 3)]
theorem kW_19_ok : ∀ q ∈ kW_19, decode code q.1 = .ok (q.2.1, q.2.2) := by decide +kernel
theorem wl_curve : mm_Yl yL_curve cL_curve 5 (mm_hh 1 10 13 0) 4 := ⟨tb5 (i := 59) rfl rfl, tb1 (i := 0) rfl rfl, ⟨by decide, by decide, by decide +kernel⟩, tb5 (i := 58) rfl rfl⟩
abbrev ctW_19 : List (Nat × CE) := [(163, (4, 2, 12, false, (1, 0), T_L_curve)), (165, (3, 0, 0, false, (0, 10), T_X10_curve)), (104, (1, 0, 0, false, (0, 10), T_X10_thrown))]
theorem cW_19 (l : Launch) (hl : l.stackTraces = false) : ∀ (i : Nat) (q : CE), mm_look ctW_19 i = some q → mm_CA l RL 60 i q := mm_ca_cons (Or.inr (Or.inl (mm_cls wl_curve (tb5 (i := 57) rfl rfl) (m_L_curve l hl) (by decide) (by decide) rfl))) (mm_ca_cons (Or.inl (mm_cbv wi_X10_curve (tb8 (i := 18) rfl rfl) (m_X10_curve l) (by decide) (by decide) rfl)) (mm_ca_cons (Or.inl (mm_cbv wi_X10_thrown (tb6 (i := 161) rfl rfl) (m_X10_thrown l) (by decide) (by decide) rfl)) (mm_ca_nil)))
set_option maxHeartbeats 4000000 in
theorem lc_19 {K : Nat → LV → List MV → HP → Nat → Nat → Prop} {L : Nat} {xs : Nat → Int32} (hL3 : L ≤ 3072) {i : Nat} (hi : i + 6 ≤ L) (hK : mm_Cl (eLaw ctW_19 [] 2 12 [(2002, (L, scr xs))] true) kW_19 lawN (fun _ _ => False) K) {a : AS} {s : RS} {o : Int → Int64} {c : CS} (hc : CR a c) (hr : RR a s) (hx : ∀ (a' : AS) (s' : RS) (o' : Int → Int64) (c' : CS) (o5 o6 o7 : Option MV), CR a' c' → RR a' s' → K 1952 [some (mR 2002), some (mR 0), some (mR 1000), some (mR 1029), some (mI (i : Int)), o5, o6, o7] [] (hL s' o' c') 2 12) (o5 o6 o7 : Option MV) : K 1419 [some (mR 2002), some (mR 0), some (mR 1000), some (mR 1029), some (mI (i : Int)), o5, o6, o7] [] (hL s o c) 0 0 := by
  have hs : ∀ k : Int, mm_rng (scr xs k) := fun k => i32_rng _
  have tail : ∀ (k : Int) (c' : CS) (o' : Int → Int64), CR a c' → ((((xCurve (aF a) (scr xs ((i : Int) + 1)) (scr xs ((i : Int) + 2)))).1 : Nat) : Int) = k → (((xCurve (aF a) (scr xs ((i : Int) + 1)) (scr xs ((i : Int) + 2)))).1 = 0 → o' 0 = Int64.ofInt ((xCurve (aF a) (scr xs ((i : Int) + 1)) (scr xs ((i : Int) + 2)))).2) → K 1436 [some (mR 2002), some (mR 0), some (mR 1000), some (mR 1029), some (mI (i : Int)), o5, o6, o7] [mI k] (hL s o' c') 2 12 := by
    intro k c' o' hc' hk ho
    refine hK [1952] _ _ _ _ _ _ ?_
    refine And.intro (rng_of (by omega) (by omega)) ?_
    refine And.intro ⟨by omega, by omega⟩ ?_
    refine And.intro (rng_of (by omega) (by omega)) ?_
    refine And.intro ⟨by omega, by omega⟩ ?_
    refine ⟨(none, CH c', [eL 1 o'], 24, c'.2.2.2.1), s, a, _, _, rfl, rfl, hr, hs _, hs _, fun s' hr' hcode => ?_⟩
    refine ⟨(none, CH c', [eL 1 o'], 24, c'.2.2.2.1), s', rfl, rfl, ?_⟩
    conv => whnf
    rw [hcode]
    refine And.intro (fun _ => ?_) (fun q => absurd hk q)
    refine And.intro (fun q => ?_) (fun q => ?_)
    · exact hx a s' o' c' _ _ _ hc' hr'
    · refine And.intro ⟨by decide, by decide⟩ ?_
      refine And.intro (fun _ => ?_) (fun q2 => absurd ((cmp_eq _ _).mpr (ho (by omega))) q2)
      exact hx a s' o' c' _ _ _ hc' hr'
  refine hK [1436] _ _ _ _ _ _ ?_
  refine And.intro (rng_of (by omega) (by omega)) ?_
  refine And.intro ⟨by omega, by omega⟩ ?_
  refine And.intro (rng_of (by omega) (by omega)) ?_
  refine And.intro ⟨by omega, by omega⟩ ?_
  refine ⟨s, o, c, a, _, _, rfl, rfl, hc, ?_⟩
  exact ⟨fun e c' o' hc' ho => tail 0 c' o' hc' (congrArg Int.ofNat e) (fun _ => ho), fun e c' hc' => tail 1 c' o hc' (congrArg Int.ofNat e) (fun z => absurd (e.symm.trans z) (by decide)), fun e c' hc' => tail 2 c' o hc' (congrArg Int.ofNat e) (fun z => absurd (e.symm.trans z) (by decide))⟩
def kW_20 : MC := [(1487, .aload_n 1, 1), (1488, .aload_n 0, 1), (1489, .iload 4, 2), (1491, .iconst 1, 1), (1492, .iadd, 1), (1493, .iaload, 1), (1494, .aload_n 0, 1), (1495, .iload 4, 2), (1497, .iconst 2, 1), (1498, .iadd, 1), (1499, .iaload, 1), (1500, .aload_n 3, 1), (1501, .invokestatic 166, 3), (1504, .istore 5, 2), (1506, .aload_n 2, 1), (1507, .aload_n 0, 1), (1508, .iload 4, 2), (1510, .iconst 1, 1), (1511, .iadd, 1), (1512, .iaload, 1), (1513, .aload_n 0, 1), (1514, .iload 4, 2), (1516, .iconst 2, 1), (1517, .iadd, 1), (1518, .iaload, 1), (1519, .invokevirtual 168, 3), (1522, .istore 6, 2), (1524, .aload_n 2, 1), (1525, .invokevirtual 104, 3), (1528, .iload 5, 2), (1530, .if_icmp .eq 5, 3), (1533, .iconst 0, 1), (1534, .ireturn, 1), (1535, .iload 5, 2), (1537, .ifCond .ne 15, 3), (1540, .aload_n 3, 1), (1541, .iconst 0, 1), (1542, .laload, 1), (1543, .iload 6, 2), (1545, .i2l, 1), (1546, .lcmp, 1), (1547, .ifCond .eq 5, 3), (1550, .iconst 0, 1), (1551, .ireturn, 1), (1552, .goto 400, 3)]
theorem kW_20_ok : ∀ q ∈ kW_20, decode code q.1 = .ok (q.2.1, q.2.2) := by decide +kernel
theorem wl_least : mm_Yl yL_least cL_least 5 (mm_hh 1 10 13 0) 4 := ⟨tb5 (i := 70) rfl rfl, tb1 (i := 0) rfl rfl, ⟨by decide, by decide, by decide +kernel⟩, tb5 (i := 69) rfl rfl⟩
abbrev ctW_20 : List (Nat × CE) := [(166, (4, 2, 12, false, (1, 0), T_L_least)), (168, (3, 0, 0, false, (0, 10), T_X10_least)), (104, (1, 0, 0, false, (0, 10), T_X10_thrown))]
theorem cW_20 (l : Launch) (hl : l.stackTraces = false) : ∀ (i : Nat) (q : CE), mm_look ctW_20 i = some q → mm_CA l RL 60 i q := mm_ca_cons (Or.inr (Or.inl (mm_cls wl_least (tb5 (i := 68) rfl rfl) (m_L_least l hl) (by decide) (by decide) rfl))) (mm_ca_cons (Or.inl (mm_cbv wi_X10_least (tb8 (i := 39) rfl rfl) (m_X10_least l) (by decide) (by decide) rfl)) (mm_ca_cons (Or.inl (mm_cbv wi_X10_thrown (tb6 (i := 161) rfl rfl) (m_X10_thrown l) (by decide) (by decide) rfl)) (mm_ca_nil)))
set_option maxHeartbeats 4000000 in
theorem lc_20 {K : Nat → LV → List MV → HP → Nat → Nat → Prop} {L : Nat} {xs : Nat → Int32} (hL3 : L ≤ 3072) {i : Nat} (hi : i + 6 ≤ L) (hK : mm_Cl (eLaw ctW_20 [] 2 12 [(2002, (L, scr xs))] true) kW_20 lawN (fun _ _ => False) K) {a : AS} {s : RS} {o : Int → Int64} {c : CS} (hc : CR a c) (hr : RR a s) (hx : ∀ (a' : AS) (s' : RS) (o' : Int → Int64) (c' : CS) (o5 o6 o7 : Option MV), CR a' c' → RR a' s' → K 1952 [some (mR 2002), some (mR 0), some (mR 1000), some (mR 1029), some (mI (i : Int)), o5, o6, o7] [] (hL s' o' c') 2 12) (o5 o6 o7 : Option MV) : K 1487 [some (mR 2002), some (mR 0), some (mR 1000), some (mR 1029), some (mI (i : Int)), o5, o6, o7] [] (hL s o c) 0 0 := by
  have hs : ∀ k : Int, mm_rng (scr xs k) := fun k => i32_rng _
  have tail : ∀ (k : Int) (c' : CS) (o' : Int → Int64), CR a c' → ((((xLeast (aF a) (scr xs ((i : Int) + 1)) (scr xs ((i : Int) + 2)))).1 : Nat) : Int) = k → (((xLeast (aF a) (scr xs ((i : Int) + 1)) (scr xs ((i : Int) + 2)))).1 = 0 → o' 0 = Int64.ofInt ((xLeast (aF a) (scr xs ((i : Int) + 1)) (scr xs ((i : Int) + 2)))).2) → K 1504 [some (mR 2002), some (mR 0), some (mR 1000), some (mR 1029), some (mI (i : Int)), o5, o6, o7] [mI k] (hL s o' c') 2 12 := by
    intro k c' o' hc' hk ho
    refine hK [1952] _ _ _ _ _ _ ?_
    refine And.intro (rng_of (by omega) (by omega)) ?_
    refine And.intro ⟨by omega, by omega⟩ ?_
    refine And.intro (rng_of (by omega) (by omega)) ?_
    refine And.intro ⟨by omega, by omega⟩ ?_
    refine ⟨(none, CH c', [eL 1 o'], 24, c'.2.2.2.1), s, a, _, _, rfl, rfl, hr, hs _, hs _, fun s' hr' hcode => ?_⟩
    refine ⟨(none, CH c', [eL 1 o'], 24, c'.2.2.2.1), s', rfl, rfl, ?_⟩
    conv => whnf
    rw [hcode]
    refine And.intro (fun _ => ?_) (fun q => absurd hk q)
    refine And.intro (fun q => ?_) (fun q => ?_)
    · exact hx a s' o' c' _ _ _ hc' hr'
    · refine And.intro ⟨by decide, by decide⟩ ?_
      refine And.intro (fun _ => ?_) (fun q2 => absurd ((cmp_eq _ _).mpr (ho (by omega))) q2)
      exact hx a s' o' c' _ _ _ hc' hr'
  refine hK [1504] _ _ _ _ _ _ ?_
  refine And.intro (rng_of (by omega) (by omega)) ?_
  refine And.intro ⟨by omega, by omega⟩ ?_
  refine And.intro (rng_of (by omega) (by omega)) ?_
  refine And.intro ⟨by omega, by omega⟩ ?_
  refine ⟨s, o, c, a, _, _, rfl, rfl, hc, ?_⟩
  exact ⟨fun e c' o' hc' ho => tail 0 c' o' hc' (congrArg Int.ofNat e) (fun _ => ho), fun e c' hc' => tail 1 c' o hc' (congrArg Int.ofNat e) (fun z => absurd (e.symm.trans z) (by decide)), fun e c' hc' => tail 2 c' o hc' (congrArg Int.ofNat e) (fun z => absurd (e.symm.trans z) (by decide))⟩
