/-! the law's body: cases 21 to 27 -/
def kW_21 : MC := [(1555, .aload_n 1, 1), (1556, .aload_n 0, 1), (1557, .iload 4, 2), (1559, .iconst 1, 1), (1560, .iadd, 1), (1561, .iaload, 1), (1562, .aload_n 0, 1), (1563, .iload 4, 2), (1565, .iconst 2, 1), (1566, .iadd, 1), (1567, .iaload, 1), (1568, .aload_n 3, 1), (1569, .invokestatic 169, 3), (1572, .istore 5, 2), (1574, .aload_n 2, 1), (1575, .aload_n 0, 1), (1576, .iload 4, 2), (1578, .iconst 1, 1), (1579, .iadd, 1), (1580, .iaload, 1), (1581, .aload_n 0, 1), (1582, .iload 4, 2), (1584, .iconst 2, 1), (1585, .iadd, 1), (1586, .iaload, 1), (1587, .invokevirtual 171, 3), (1590, .istore 6, 2), (1592, .aload_n 2, 1), (1593, .invokevirtual 104, 3), (1596, .iload 5, 2), (1598, .if_icmp .eq 5, 3), (1601, .iconst 0, 1), (1602, .ireturn, 1), (1603, .iload 5, 2), (1605, .ifCond .ne 15, 3), (1608, .aload_n 3, 1), (1609, .iconst 0, 1), (1610, .laload, 1), (1611, .iload 6, 2), (1613, .i2l, 1), (1614, .lcmp, 1), (1615, .ifCond .eq 5, 3), (1618, .iconst 0, 1), (1619, .ireturn, 1), (1620, .goto 332, 3)]
theorem kW_21_ok : ∀ q ∈ kW_21, decode code q.1 = .ok (q.2.1, q.2.2) := by decide +kernel
theorem wl_let : mm_Yl yL_let cL_let 5 (mm_hh 2 10 13 17) 4 := ⟨tb5 (i := 91) rfl rfl, tb1 (i := 0) rfl rfl, ⟨by decide, by decide, by decide +kernel⟩, tb5 (i := 90) rfl rfl⟩
abbrev ctW_21 : List (Nat × CE) := [(169, (4, 2, 12, false, (1, 0), T_L_let)), (171, (3, 0, 0, false, (0, 10), T_X10_let)), (104, (1, 0, 0, false, (0, 10), T_X10_thrown))]
theorem cW_21 (l : Launch) (hl : l.stackTraces = false) : ∀ (i : Nat) (q : CE), mm_look ctW_21 i = some q → mm_CA l RL 60 i q := mm_ca_cons (Or.inr (Or.inl (mm_cls wl_let (tb5 (i := 89) rfl rfl) (m_L_let l hl) (by decide) (by decide) rfl))) (mm_ca_cons (Or.inl (mm_cbv wi_X10_let (tb8 (i := 51) rfl rfl) (m_X10_let l) (by decide) (by decide) rfl)) (mm_ca_cons (Or.inl (mm_cbv wi_X10_thrown (tb6 (i := 161) rfl rfl) (m_X10_thrown l) (by decide) (by decide) rfl)) (mm_ca_nil)))
set_option maxHeartbeats 4000000 in
theorem lc_21 {K : Nat → LV → List MV → HP → Nat → Nat → Prop} {L : Nat} {xs : Nat → Int32} (hL3 : L ≤ 3072) {i : Nat} (hi : i + 6 ≤ L) (hK : mm_Cl (eLaw ctW_21 [] 2 12 [(2002, (L, scr xs))] true) kW_21 lawN (fun _ _ => False) K) {a : AS} {s : RS} {o : Int → Int64} {c : CS} (hc : CR a c) (hr : RR a s) (hx : ∀ (a' : AS) (s' : RS) (o' : Int → Int64) (c' : CS) (o5 o6 o7 : Option MV), CR a' c' → RR a' s' → K 1952 [some (mR 2002), some (mR 0), some (mR 1000), some (mR 1029), some (mI (i : Int)), o5, o6, o7] [] (hL s' o' c') 2 12) (o5 o6 o7 : Option MV) : K 1555 [some (mR 2002), some (mR 0), some (mR 1000), some (mR 1029), some (mI (i : Int)), o5, o6, o7] [] (hL s o c) 0 0 := by
  have hs : ∀ k : Int, mm_rng (scr xs k) := fun k => i32_rng _
  have tail : ∀ (k : Int) (c' : CS) (o' : Int → Int64), CR ((xLet a (scr xs ((i : Int) + 1)) (scr xs ((i : Int) + 2))).1) c' → ((((xLet a (scr xs ((i : Int) + 1)) (scr xs ((i : Int) + 2))).2).1 : Nat) : Int) = k → (((xLet a (scr xs ((i : Int) + 1)) (scr xs ((i : Int) + 2))).2).1 = 0 → o' 0 = Int64.ofInt ((xLet a (scr xs ((i : Int) + 1)) (scr xs ((i : Int) + 2))).2).2) → K 1572 [some (mR 2002), some (mR 0), some (mR 1000), some (mR 1029), some (mI (i : Int)), o5, o6, o7] [mI k] (hL s o' c') 2 12 := by
    intro k c' o' hc' hk ho
    refine hK [1952] _ _ _ _ _ _ ?_
    refine And.intro (rng_of (by omega) (by omega)) ?_
    refine And.intro ⟨by omega, by omega⟩ ?_
    refine And.intro (rng_of (by omega) (by omega)) ?_
    refine And.intro ⟨by omega, by omega⟩ ?_
    refine ⟨(none, CH c', [eL 1 o'], 24, c'.2.2.2.1), s, a, _, _, rfl, rfl, hr, hs _, hs _, fun s' hr' hcode => ?_⟩
    refine ⟨(none, CH c', [eL 1 o'], 24, c'.2.2.2.1), s', rfl, rfl, ?_⟩
    conv => whnf
    rw [hcode]
    refine And.intro (fun _ => ?_) (fun q => absurd hk q)
    refine And.intro (fun q => ?_) (fun q => ?_)
    · exact hx ((xLet a (scr xs ((i : Int) + 1)) (scr xs ((i : Int) + 2))).1) s' o' c' _ _ _ hc' hr'
    · refine And.intro ⟨by decide, by decide⟩ ?_
      refine And.intro (fun _ => ?_) (fun q2 => absurd ((cmp_eq _ _).mpr (ho (by omega))) q2)
      exact hx ((xLet a (scr xs ((i : Int) + 1)) (scr xs ((i : Int) + 2))).1) s' o' c' _ _ _ hc' hr'
  refine hK [1572] _ _ _ _ _ _ ?_
  refine And.intro (rng_of (by omega) (by omega)) ?_
  refine And.intro ⟨by omega, by omega⟩ ?_
  refine And.intro (rng_of (by omega) (by omega)) ?_
  refine And.intro ⟨by omega, by omega⟩ ?_
  refine ⟨s, o, c, a, _, _, rfl, rfl, hc, ?_⟩
  exact ⟨fun e c' o' hc' ho => tail 0 c' o' hc' (congrArg Int.ofNat e) (fun _ => ho), fun e c' hc' => tail 1 c' o hc' (congrArg Int.ofNat e) (fun z => absurd (e.symm.trans z) (by decide)), fun e c' hc' => tail 2 c' o hc' (congrArg Int.ofNat e) (fun z => absurd (e.symm.trans z) (by decide))⟩
def kW_22 : MC := [(1623, .aload_n 1, 1), (1624, .aload_n 0, 1), (1625, .iload 4, 2), (1627, .iconst 1, 1), (1628, .iadd, 1), (1629, .iaload, 1), (1630, .aload_n 3, 1), (1631, .invokestatic 172, 3), (1634, .istore 5, 2), (1636, .aload_n 2, 1), (1637, .aload_n 0, 1), (1638, .iload 4, 2), (1640, .iconst 1, 1), (1641, .iadd, 1), (1642, .iaload, 1), (1643, .invokevirtual 174, 3), (1646, .istore 6, 2), (1648, .aload_n 2, 1), (1649, .invokevirtual 104, 3), (1652, .iload 5, 2), (1654, .if_icmp .eq 5, 3), (1657, .iconst 0, 1), (1658, .ireturn, 1), (1659, .iload 5, 2), (1661, .ifCond .ne 15, 3), (1664, .aload_n 3, 1), (1665, .iconst 0, 1), (1666, .laload, 1), (1667, .iload 6, 2), (1669, .i2l, 1), (1670, .lcmp, 1), (1671, .ifCond .eq 5, 3), (1674, .iconst 0, 1), (1675, .ireturn, 1), (1676, .goto 276, 3)]
theorem kW_22_ok : ∀ q ∈ kW_22, decode code q.1 = .ok (q.2.1, q.2.2) := by decide +kernel
theorem wl_alike : mm_Yl yL_alike cL_alike 4 (mm_hh 1 9 12 0) 3 := ⟨tb5 (i := 99) rfl rfl, tb1 (i := 0) rfl rfl, ⟨by decide, by decide, by decide +kernel⟩, tb5 (i := 98) rfl rfl⟩
abbrev ctW_22 : List (Nat × CE) := [(172, (3, 1, 6, false, (1, 0), T_L_alike)), (174, (2, 0, 0, false, (0, 10), T_X10_alike)), (104, (1, 0, 0, false, (0, 10), T_X10_thrown))]
theorem cW_22 (l : Launch) (hl : l.stackTraces = false) : ∀ (i : Nat) (q : CE), mm_look ctW_22 i = some q → mm_CA l RL 60 i q := mm_ca_cons (Or.inr (Or.inl (mm_cls wl_alike (tb5 (i := 97) rfl rfl) (m_L_alike l hl) (by decide) (by decide) rfl))) (mm_ca_cons (Or.inl (mm_cbv wi_X10_alike (tb8 (i := 57) rfl rfl) (m_X10_alike l) (by decide) (by decide) rfl)) (mm_ca_cons (Or.inl (mm_cbv wi_X10_thrown (tb6 (i := 161) rfl rfl) (m_X10_thrown l) (by decide) (by decide) rfl)) (mm_ca_nil)))
set_option maxHeartbeats 4000000 in
theorem lc_22 {K : Nat → LV → List MV → HP → Nat → Nat → Prop} {L : Nat} {xs : Nat → Int32} (hL3 : L ≤ 3072) {i : Nat} (hi : i + 6 ≤ L) (hK : mm_Cl (eLaw ctW_22 [] 1 6 [(2002, (L, scr xs))] true) kW_22 lawN (fun _ _ => False) K) {a : AS} {s : RS} {o : Int → Int64} {c : CS} (hc : CR a c) (hr : RR a s) (hx : ∀ (a' : AS) (s' : RS) (o' : Int → Int64) (c' : CS) (o5 o6 o7 : Option MV), CR a' c' → RR a' s' → K 1952 [some (mR 2002), some (mR 0), some (mR 1000), some (mR 1029), some (mI (i : Int)), o5, o6, o7] [] (hL s' o' c') 1 6) (o5 o6 o7 : Option MV) : K 1623 [some (mR 2002), some (mR 0), some (mR 1000), some (mR 1029), some (mI (i : Int)), o5, o6, o7] [] (hL s o c) 0 0 := by
  have hs : ∀ k : Int, mm_rng (scr xs k) := fun k => i32_rng _
  have tail : ∀ (k : Int) (c' : CS) (o' : Int → Int64), CR a c' → ((((xAlike a (scr xs ((i : Int) + 1)))).1 : Nat) : Int) = k → (((xAlike a (scr xs ((i : Int) + 1)))).1 = 0 → o' 0 = Int64.ofInt ((xAlike a (scr xs ((i : Int) + 1)))).2) → K 1634 [some (mR 2002), some (mR 0), some (mR 1000), some (mR 1029), some (mI (i : Int)), o5, o6, o7] [mI k] (hL s o' c') 1 6 := by
    intro k c' o' hc' hk ho
    refine hK [1952] _ _ _ _ _ _ ?_
    refine And.intro (rng_of (by omega) (by omega)) ?_
    refine And.intro ⟨by omega, by omega⟩ ?_
    refine ⟨(none, CH c', [eL 1 o'], 24, c'.2.2.2.1), s, a, _, rfl, rfl, hr, hs _, fun s' hr' hcode => ?_⟩
    refine ⟨(none, CH c', [eL 1 o'], 24, c'.2.2.2.1), s', rfl, rfl, ?_⟩
    conv => whnf
    rw [hcode]
    refine And.intro (fun _ => ?_) (fun q => absurd hk q)
    refine And.intro (fun q => ?_) (fun q => ?_)
    · exact hx a s' o' c' _ _ _ hc' hr'
    · refine And.intro ⟨by decide, by decide⟩ ?_
      refine And.intro (fun _ => ?_) (fun q2 => absurd ((cmp_eq _ _).mpr (ho (by omega))) q2)
      exact hx a s' o' c' _ _ _ hc' hr'
  refine hK [1634] _ _ _ _ _ _ ?_
  refine And.intro (rng_of (by omega) (by omega)) ?_
  refine And.intro ⟨by omega, by omega⟩ ?_
  refine ⟨s, o, c, a, _, rfl, rfl, hc, ?_⟩
  exact ⟨fun e c' o' hc' ho => tail 0 c' o' hc' (congrArg Int.ofNat e) (fun _ => ho), fun e c' hc' => tail 1 c' o hc' (congrArg Int.ofNat e) (fun z => absurd (e.symm.trans z) (by decide)), fun e c' hc' => tail 2 c' o hc' (congrArg Int.ofNat e) (fun z => absurd (e.symm.trans z) (by decide))⟩
def kW_23 : MC := [(1679, .aload_n 1, 1), (1680, .aload_n 0, 1), (1681, .iload 4, 2), (1683, .iconst 1, 1), (1684, .iadd, 1), (1685, .iaload, 1), (1686, .aload_n 3, 1), (1687, .invokestatic 175, 3), (1690, .istore 5, 2), (1692, .aload_n 2, 1), (1693, .aload_n 0, 1), (1694, .iload 4, 2), (1696, .iconst 1, 1), (1697, .iadd, 1), (1698, .iaload, 1), (1699, .invokevirtual 177, 3), (1702, .istore 6, 2), (1704, .aload_n 2, 1), (1705, .invokevirtual 104, 3), (1708, .iload 5, 2), (1710, .if_icmp .eq 5, 3), (1713, .iconst 0, 1), (1714, .ireturn, 1), (1715, .iload 5, 2), (1717, .ifCond .ne 15, 3), (1720, .aload_n 3, 1), (1721, .iconst 0, 1), (1722, .laload, 1), (1723, .iload 6, 2), (1725, .i2l, 1), (1726, .lcmp, 1), (1727, .ifCond .eq 5, 3), (1730, .iconst 0, 1), (1731, .ireturn, 1), (1732, .goto 220, 3)]
theorem kW_23_ok : ∀ q ∈ kW_23, decode code q.1 = .ok (q.2.1, q.2.2) := by decide +kernel
theorem wl_mark : mm_Yl yL_mark cL_mark 4 (mm_hh 1 9 12 0) 3 := ⟨tb5 (i := 106) rfl rfl, tb1 (i := 0) rfl rfl, ⟨by decide, by decide, by decide +kernel⟩, tb5 (i := 105) rfl rfl⟩
abbrev ctW_23 : List (Nat × CE) := [(175, (3, 1, 6, false, (1, 0), T_L_mark)), (177, (2, 0, 0, false, (0, 10), T_X10_mark)), (104, (1, 0, 0, false, (0, 10), T_X10_thrown))]
theorem cW_23 (l : Launch) (hl : l.stackTraces = false) : ∀ (i : Nat) (q : CE), mm_look ctW_23 i = some q → mm_CA l RL 60 i q := mm_ca_cons (Or.inr (Or.inl (mm_cls wl_mark (tb5 (i := 104) rfl rfl) (m_L_mark l hl) (by decide) (by decide) rfl))) (mm_ca_cons (Or.inl (mm_cbv wi_X10_mark (tb8 (i := 61) rfl rfl) (m_X10_mark l) (by decide) (by decide) rfl)) (mm_ca_cons (Or.inl (mm_cbv wi_X10_thrown (tb6 (i := 161) rfl rfl) (m_X10_thrown l) (by decide) (by decide) rfl)) (mm_ca_nil)))
set_option maxHeartbeats 4000000 in
theorem lc_23 {K : Nat → LV → List MV → HP → Nat → Nat → Prop} {L : Nat} {xs : Nat → Int32} (hL3 : L ≤ 3072) {i : Nat} (hi : i + 6 ≤ L) (hK : mm_Cl (eLaw ctW_23 [] 1 6 [(2002, (L, scr xs))] true) kW_23 lawN (fun _ _ => False) K) {a : AS} {s : RS} {o : Int → Int64} {c : CS} (hc : CR a c) (hr : RR a s) (hx : ∀ (a' : AS) (s' : RS) (o' : Int → Int64) (c' : CS) (o5 o6 o7 : Option MV), CR a' c' → RR a' s' → K 1952 [some (mR 2002), some (mR 0), some (mR 1000), some (mR 1029), some (mI (i : Int)), o5, o6, o7] [] (hL s' o' c') 1 6) (o5 o6 o7 : Option MV) : K 1679 [some (mR 2002), some (mR 0), some (mR 1000), some (mR 1029), some (mI (i : Int)), o5, o6, o7] [] (hL s o c) 0 0 := by
  have hs : ∀ k : Int, mm_rng (scr xs k) := fun k => i32_rng _
  have tail : ∀ (k : Int) (c' : CS) (o' : Int → Int64), CR ((xMark a (scr xs ((i : Int) + 1))).1) c' → ((((xMark a (scr xs ((i : Int) + 1))).2).1 : Nat) : Int) = k → (((xMark a (scr xs ((i : Int) + 1))).2).1 = 0 → o' 0 = Int64.ofInt ((xMark a (scr xs ((i : Int) + 1))).2).2) → K 1690 [some (mR 2002), some (mR 0), some (mR 1000), some (mR 1029), some (mI (i : Int)), o5, o6, o7] [mI k] (hL s o' c') 1 6 := by
    intro k c' o' hc' hk ho
    refine hK [1952] _ _ _ _ _ _ ?_
    refine And.intro (rng_of (by omega) (by omega)) ?_
    refine And.intro ⟨by omega, by omega⟩ ?_
    refine ⟨(none, CH c', [eL 1 o'], 24, c'.2.2.2.1), s, a, _, rfl, rfl, hr, hs _, fun s' hr' hcode => ?_⟩
    refine ⟨(none, CH c', [eL 1 o'], 24, c'.2.2.2.1), s', rfl, rfl, ?_⟩
    conv => whnf
    rw [hcode]
    refine And.intro (fun _ => ?_) (fun q => absurd hk q)
    refine And.intro (fun q => ?_) (fun q => ?_)
    · exact hx ((xMark a (scr xs ((i : Int) + 1))).1) s' o' c' _ _ _ hc' hr'
    · refine And.intro ⟨by decide, by decide⟩ ?_
      refine And.intro (fun _ => ?_) (fun q2 => absurd ((cmp_eq _ _).mpr (ho (by omega))) q2)
      exact hx ((xMark a (scr xs ((i : Int) + 1))).1) s' o' c' _ _ _ hc' hr'
  refine hK [1690] _ _ _ _ _ _ ?_
  refine And.intro (rng_of (by omega) (by omega)) ?_
  refine And.intro ⟨by omega, by omega⟩ ?_
  refine ⟨s, o, c, a, _, rfl, rfl, hc, hs _, ?_⟩
  exact ⟨fun e c' o' hc' ho => tail 0 c' o' hc' (congrArg Int.ofNat e) (fun _ => ho), fun e c' hc' => tail 1 c' o hc' (congrArg Int.ofNat e) (fun z => absurd (e.symm.trans z) (by decide)), fun e c' hc' => tail 2 c' o hc' (congrArg Int.ofNat e) (fun z => absurd (e.symm.trans z) (by decide))⟩
def kW_24 : MC := [(1735, .aload_n 1, 1), (1736, .aload_n 0, 1), (1737, .iload 4, 2), (1739, .iconst 1, 1), (1740, .iadd, 1), (1741, .iaload, 1), (1742, .aload_n 3, 1), (1743, .invokestatic 178, 3), (1746, .istore 5, 2), (1748, .aload_n 2, 1), (1749, .aload_n 0, 1), (1750, .iload 4, 2), (1752, .iconst 1, 1), (1753, .iadd, 1), (1754, .iaload, 1), (1755, .invokevirtual 180, 3), (1758, .istore 6, 2), (1760, .aload_n 2, 1), (1761, .invokevirtual 104, 3), (1764, .iload 5, 2), (1766, .if_icmp .eq 5, 3), (1769, .iconst 0, 1), (1770, .ireturn, 1), (1771, .iload 5, 2), (1773, .ifCond .ne 15, 3), (1776, .aload_n 3, 1), (1777, .iconst 0, 1), (1778, .laload, 1), (1779, .iload 6, 2), (1781, .i2l, 1), (1782, .lcmp, 1), (1783, .ifCond .eq 5, 3), (1786, .iconst 0, 1), (1787, .ireturn, 1), (1788, .goto 164, 3)]
theorem kW_24_ok : ∀ q ∈ kW_24, decode code q.1 = .ok (q.2.1, q.2.2) := by decide +kernel
theorem wl_differences : mm_Yl yL_differences cL_differences 4 (mm_hh 1 9 12 0) 3 := ⟨tb5 (i := 124) rfl rfl, tb1 (i := 0) rfl rfl, ⟨by decide, by decide, by decide +kernel⟩, tb5 (i := 123) rfl rfl⟩
abbrev ctW_24 : List (Nat × CE) := [(178, (3, 1, 6, false, (1, 0), T_L_differences)), (180, (2, 0, 0, false, (0, 10), T_X10_differences)), (104, (1, 0, 0, false, (0, 10), T_X10_thrown))]
theorem cW_24 (l : Launch) (hl : l.stackTraces = false) : ∀ (i : Nat) (q : CE), mm_look ctW_24 i = some q → mm_CA l RL 60 i q := mm_ca_cons (Or.inr (Or.inl (mm_cls wl_differences (tb5 (i := 122) rfl rfl) (m_L_differences l hl) (by decide) (by decide) rfl))) (mm_ca_cons (Or.inl (mm_cbv wi_X10_differences (tb8 (i := 72) rfl rfl) (m_X10_differences l) (by decide) (by decide) rfl)) (mm_ca_cons (Or.inl (mm_cbv wi_X10_thrown (tb6 (i := 161) rfl rfl) (m_X10_thrown l) (by decide) (by decide) rfl)) (mm_ca_nil)))
set_option maxHeartbeats 4000000 in
theorem lc_24 {K : Nat → LV → List MV → HP → Nat → Nat → Prop} {L : Nat} {xs : Nat → Int32} (hL3 : L ≤ 3072) {i : Nat} (hi : i + 6 ≤ L) (hK : mm_Cl (eLaw ctW_24 [] 1 6 [(2002, (L, scr xs))] true) kW_24 lawN (fun _ _ => False) K) {a : AS} {s : RS} {o : Int → Int64} {c : CS} (hc : CR a c) (hr : RR a s) (hx : ∀ (a' : AS) (s' : RS) (o' : Int → Int64) (c' : CS) (o5 o6 o7 : Option MV), CR a' c' → RR a' s' → K 1952 [some (mR 2002), some (mR 0), some (mR 1000), some (mR 1029), some (mI (i : Int)), o5, o6, o7] [] (hL s' o' c') 1 6) (o5 o6 o7 : Option MV) : K 1735 [some (mR 2002), some (mR 0), some (mR 1000), some (mR 1029), some (mI (i : Int)), o5, o6, o7] [] (hL s o c) 0 0 := by
  have hs : ∀ k : Int, mm_rng (scr xs k) := fun k => i32_rng _
  have tail : ∀ (k : Int) (c' : CS) (o' : Int → Int64), CR a c' → ((((xDifferences (aF a) (scr xs ((i : Int) + 1)))).1 : Nat) : Int) = k → (((xDifferences (aF a) (scr xs ((i : Int) + 1)))).1 = 0 → o' 0 = Int64.ofInt ((xDifferences (aF a) (scr xs ((i : Int) + 1)))).2) → K 1746 [some (mR 2002), some (mR 0), some (mR 1000), some (mR 1029), some (mI (i : Int)), o5, o6, o7] [mI k] (hL s o' c') 1 6 := by
    intro k c' o' hc' hk ho
    refine hK [1952] _ _ _ _ _ _ ?_
    refine And.intro (rng_of (by omega) (by omega)) ?_
    refine And.intro ⟨by omega, by omega⟩ ?_
    refine ⟨(none, CH c', [eL 1 o'], 24, c'.2.2.2.1), s, a, _, rfl, rfl, hr, hs _, fun s' hr' hcode => ?_⟩
    refine ⟨(none, CH c', [eL 1 o'], 24, c'.2.2.2.1), s', rfl, rfl, ?_⟩
    conv => whnf
    rw [hcode]
    refine And.intro (fun _ => ?_) (fun q => absurd hk q)
    refine And.intro (fun q => ?_) (fun q => ?_)
    · exact hx a s' o' c' _ _ _ hc' hr'
    · refine And.intro ⟨by decide, by decide⟩ ?_
      refine And.intro (fun _ => ?_) (fun q2 => absurd ((cmp_eq _ _).mpr (ho (by omega))) q2)
      exact hx a s' o' c' _ _ _ hc' hr'
  refine hK [1746] _ _ _ _ _ _ ?_
  refine And.intro (rng_of (by omega) (by omega)) ?_
  refine And.intro ⟨by omega, by omega⟩ ?_
  refine ⟨s, o, c, a, _, rfl, rfl, hc, hs _, ?_⟩
  exact ⟨fun e c' o' hc' ho => tail 0 c' o' hc' (congrArg Int.ofNat e) (fun _ => ho), fun e c' hc' => tail 1 c' o hc' (congrArg Int.ofNat e) (fun z => absurd (e.symm.trans z) (by decide)), fun e c' hc' => tail 2 c' o hc' (congrArg Int.ofNat e) (fun z => absurd (e.symm.trans z) (by decide))⟩
def kW_25 : MC := [(1791, .aload_n 1, 1), (1792, .aload_n 0, 1), (1793, .iload 4, 2), (1795, .iconst 1, 1), (1796, .iadd, 1), (1797, .iaload, 1), (1798, .aload_n 0, 1), (1799, .iload 4, 2), (1801, .iconst 2, 1), (1802, .iadd, 1), (1803, .iaload, 1), (1804, .aload_n 0, 1), (1805, .iload 4, 2), (1807, .iconst 3, 1), (1808, .iadd, 1), (1809, .iaload, 1), (1810, .aload_n 3, 1), (1811, .invokestatic 181, 3), (1814, .istore 5, 2), (1816, .aload_n 2, 1), (1817, .aload_n 0, 1), (1818, .iload 4, 2), (1820, .iconst 1, 1), (1821, .iadd, 1), (1822, .iaload, 1), (1823, .aload_n 0, 1), (1824, .iload 4, 2), (1826, .iconst 2, 1), (1827, .iadd, 1), (1828, .iaload, 1), (1829, .aload_n 0, 1), (1830, .iload 4, 2), (1832, .iconst 3, 1), (1833, .iadd, 1), (1834, .iaload, 1), (1835, .invokevirtual 183, 3), (1838, .istore 6, 2), (1840, .aload_n 2, 1), (1841, .invokevirtual 104, 3), (1844, .iload 5, 2), (1846, .if_icmp .eq 5, 3), (1849, .iconst 0, 1), (1850, .ireturn, 1), (1851, .iload 5, 2), (1853, .ifCond .ne 15, 3), (1856, .aload_n 3, 1), (1857, .iconst 0, 1), (1858, .laload, 1), (1859, .iload 6, 2), (1861, .i2l, 1), (1862, .lcmp, 1), (1863, .ifCond .eq 5, 3), (1866, .iconst 0, 1), (1867, .ireturn, 1), (1868, .goto 84, 3)]
theorem kW_25_ok : ∀ q ∈ kW_25, decode code q.1 = .ok (q.2.1, q.2.2) := by decide +kernel
theorem wl_cyclotomic : mm_Yl yL_cyclotomic cL_cyclotomic 6 (mm_hh 1 12 15 0) 5 := ⟨tb5 (i := 137) rfl rfl, tb1 (i := 0) rfl rfl, ⟨by decide, by decide, by decide +kernel⟩, tb5 (i := 136) rfl rfl⟩
abbrev ctW_25 : List (Nat × CE) := [(181, (5, 1, 6, false, (1, 0), T_L_cyclotomic)), (183, (4, 0, 0, false, (0, 10), T_X10_cyclotomic)), (104, (1, 0, 0, false, (0, 10), T_X10_thrown))]
theorem cW_25 (l : Launch) (hl : l.stackTraces = false) : ∀ (i : Nat) (q : CE), mm_look ctW_25 i = some q → mm_CA l RL 60 i q := mm_ca_cons (Or.inr (Or.inl (mm_cls wl_cyclotomic (tb5 (i := 135) rfl rfl) (m_L_cyclotomic l hl) (by decide) (by decide) rfl))) (mm_ca_cons (Or.inl (mm_cbv wi_X10_cyclotomic (tb8 (i := 80) rfl rfl) (m_X10_cyclotomic l) (by decide) (by decide) rfl)) (mm_ca_cons (Or.inl (mm_cbv wi_X10_thrown (tb6 (i := 161) rfl rfl) (m_X10_thrown l) (by decide) (by decide) rfl)) (mm_ca_nil)))
set_option maxHeartbeats 4000000 in
theorem lc_25 {K : Nat → LV → List MV → HP → Nat → Nat → Prop} {L : Nat} {xs : Nat → Int32} (hL3 : L ≤ 3072) {i : Nat} (hi : i + 6 ≤ L) (hK : mm_Cl (eLaw ctW_25 [] 1 6 [(2002, (L, scr xs))] true) kW_25 lawN (fun _ _ => False) K) {a : AS} {s : RS} {o : Int → Int64} {c : CS} (hc : CR a c) (hr : RR a s) (hx : ∀ (a' : AS) (s' : RS) (o' : Int → Int64) (c' : CS) (o5 o6 o7 : Option MV), CR a' c' → RR a' s' → K 1952 [some (mR 2002), some (mR 0), some (mR 1000), some (mR 1029), some (mI (i : Int)), o5, o6, o7] [] (hL s' o' c') 1 6) (o5 o6 o7 : Option MV) : K 1791 [some (mR 2002), some (mR 0), some (mR 1000), some (mR 1029), some (mI (i : Int)), o5, o6, o7] [] (hL s o c) 0 0 := by
  have hs : ∀ k : Int, mm_rng (scr xs k) := fun k => i32_rng _
  have tail : ∀ (k : Int) (c' : CS) (o' : Int → Int64), CR a c' → ((((xCyclotomic (aF a) (scr xs ((i : Int) + 1)) (scr xs ((i : Int) + 2)) (scr xs ((i : Int) + 3)))).1 : Nat) : Int) = k → (((xCyclotomic (aF a) (scr xs ((i : Int) + 1)) (scr xs ((i : Int) + 2)) (scr xs ((i : Int) + 3)))).1 = 0 → o' 0 = Int64.ofInt ((xCyclotomic (aF a) (scr xs ((i : Int) + 1)) (scr xs ((i : Int) + 2)) (scr xs ((i : Int) + 3)))).2) → K 1814 [some (mR 2002), some (mR 0), some (mR 1000), some (mR 1029), some (mI (i : Int)), o5, o6, o7] [mI k] (hL s o' c') 1 6 := by
    intro k c' o' hc' hk ho
    refine hK [1952] _ _ _ _ _ _ ?_
    refine And.intro (rng_of (by omega) (by omega)) ?_
    refine And.intro ⟨by omega, by omega⟩ ?_
    refine And.intro (rng_of (by omega) (by omega)) ?_
    refine And.intro ⟨by omega, by omega⟩ ?_
    refine And.intro (rng_of (by omega) (by omega)) ?_
    refine And.intro ⟨by omega, by omega⟩ ?_
    refine ⟨(none, CH c', [eL 1 o'], 24, c'.2.2.2.1), s, a, _, _, _, rfl, rfl, hr, hs _, hs _, hs _, fun s' hr' hcode => ?_⟩
    refine ⟨(none, CH c', [eL 1 o'], 24, c'.2.2.2.1), s', rfl, rfl, ?_⟩
    conv => whnf
    rw [hcode]
    refine And.intro (fun _ => ?_) (fun q => absurd hk q)
    refine And.intro (fun q => ?_) (fun q => ?_)
    · exact hx a s' o' c' _ _ _ hc' hr'
    · refine And.intro ⟨by decide, by decide⟩ ?_
      refine And.intro (fun _ => ?_) (fun q2 => absurd ((cmp_eq _ _).mpr (ho (by omega))) q2)
      exact hx a s' o' c' _ _ _ hc' hr'
  refine hK [1814] _ _ _ _ _ _ ?_
  refine And.intro (rng_of (by omega) (by omega)) ?_
  refine And.intro ⟨by omega, by omega⟩ ?_
  refine And.intro (rng_of (by omega) (by omega)) ?_
  refine And.intro ⟨by omega, by omega⟩ ?_
  refine And.intro (rng_of (by omega) (by omega)) ?_
  refine And.intro ⟨by omega, by omega⟩ ?_
  refine ⟨s, o, c, a, _, _, _, rfl, rfl, hc, ?_⟩
  exact ⟨fun e c' o' hc' ho => tail 0 c' o' hc' (congrArg Int.ofNat e) (fun _ => ho), fun e c' hc' => tail 1 c' o hc' (congrArg Int.ofNat e) (fun z => absurd (e.symm.trans z) (by decide)), fun e c' hc' => tail 2 c' o hc' (congrArg Int.ofNat e) (fun z => absurd (e.symm.trans z) (by decide))⟩
def kW_26 : MC := [(1871, .aload_n 1, 1), (1872, .aload_n 0, 1), (1873, .iload 4, 2), (1875, .iconst 1, 1), (1876, .iadd, 1), (1877, .iaload, 1), (1878, .aload_n 3, 1), (1879, .invokestatic 184, 3), (1882, .istore 5, 2), (1884, .aload_n 2, 1), (1885, .aload_n 0, 1), (1886, .iload 4, 2), (1888, .iconst 1, 1), (1889, .iadd, 1), (1890, .iaload, 1), (1891, .invokevirtual 186, 3), (1894, .istore 6, 2), (1896, .aload_n 2, 1), (1897, .invokevirtual 104, 3), (1900, .iload 5, 2), (1902, .if_icmp .eq 5, 3), (1905, .iconst 0, 1), (1906, .ireturn, 1), (1907, .iload 5, 2), (1909, .ifCond .ne 15, 3), (1912, .aload_n 3, 1), (1913, .iconst 0, 1), (1914, .laload, 1), (1915, .iload 6, 2), (1917, .i2l, 1), (1918, .lcmp, 1), (1919, .ifCond .eq 5, 3), (1922, .iconst 0, 1), (1923, .ireturn, 1), (1924, .goto 28, 3)]
theorem kW_26_ok : ∀ q ∈ kW_26, decode code q.1 = .ok (q.2.1, q.2.2) := by decide +kernel
theorem wl_say : mm_Yl yL_say cL_say 4 (mm_hh 1 9 12 0) 3 := ⟨tb5 (i := 150) rfl rfl, tb1 (i := 0) rfl rfl, ⟨by decide, by decide, by decide +kernel⟩, tb5 (i := 149) rfl rfl⟩
abbrev ctW_26 : List (Nat × CE) := [(184, (3, 1, 6, false, (1, 0), T_L_say)), (186, (2, 0, 0, false, (0, 10), T_X10_say)), (104, (1, 0, 0, false, (0, 10), T_X10_thrown))]
theorem cW_26 (l : Launch) (hl : l.stackTraces = false) : ∀ (i : Nat) (q : CE), mm_look ctW_26 i = some q → mm_CA l RL 60 i q := mm_ca_cons (Or.inr (Or.inl (mm_cls wl_say (tb5 (i := 148) rfl rfl) (m_L_say l hl) (by decide) (by decide) rfl))) (mm_ca_cons (Or.inl (mm_cbv wi_X10_say (tb8 (i := 84) rfl rfl) (m_X10_say l) (by decide) (by decide) rfl)) (mm_ca_cons (Or.inl (mm_cbv wi_X10_thrown (tb6 (i := 161) rfl rfl) (m_X10_thrown l) (by decide) (by decide) rfl)) (mm_ca_nil)))
set_option maxHeartbeats 4000000 in
theorem lc_26 {K : Nat → LV → List MV → HP → Nat → Nat → Prop} {L : Nat} {xs : Nat → Int32} (hL3 : L ≤ 3072) {i : Nat} (hi : i + 6 ≤ L) (hK : mm_Cl (eLaw ctW_26 [] 1 6 [(2002, (L, scr xs))] true) kW_26 lawN (fun _ _ => False) K) {a : AS} {s : RS} {o : Int → Int64} {c : CS} (hc : CR a c) (hr : RR a s) (hx : ∀ (a' : AS) (s' : RS) (o' : Int → Int64) (c' : CS) (o5 o6 o7 : Option MV), CR a' c' → RR a' s' → K 1952 [some (mR 2002), some (mR 0), some (mR 1000), some (mR 1029), some (mI (i : Int)), o5, o6, o7] [] (hL s' o' c') 1 6) (o5 o6 o7 : Option MV) : K 1871 [some (mR 2002), some (mR 0), some (mR 1000), some (mR 1029), some (mI (i : Int)), o5, o6, o7] [] (hL s o c) 0 0 := by
  have hs : ∀ k : Int, mm_rng (scr xs k) := fun k => i32_rng _
  have tail : ∀ (k : Int) (c' : CS) (o' : Int → Int64), CR ((xSay a (scr xs ((i : Int) + 1))).1) c' → ((((xSay a (scr xs ((i : Int) + 1))).2).1 : Nat) : Int) = k → (((xSay a (scr xs ((i : Int) + 1))).2).1 = 0 → o' 0 = Int64.ofInt ((xSay a (scr xs ((i : Int) + 1))).2).2) → K 1882 [some (mR 2002), some (mR 0), some (mR 1000), some (mR 1029), some (mI (i : Int)), o5, o6, o7] [mI k] (hL s o' c') 1 6 := by
    intro k c' o' hc' hk ho
    refine hK [1952] _ _ _ _ _ _ ?_
    refine And.intro (rng_of (by omega) (by omega)) ?_
    refine And.intro ⟨by omega, by omega⟩ ?_
    refine ⟨(none, CH c', [eL 1 o'], 24, c'.2.2.2.1), s, a, _, rfl, rfl, hr, hs _, fun s' hr' hcode => ?_⟩
    refine ⟨(none, CH c', [eL 1 o'], 24, c'.2.2.2.1), s', rfl, rfl, ?_⟩
    conv => whnf
    rw [hcode]
    refine And.intro (fun _ => ?_) (fun q => absurd hk q)
    refine And.intro (fun q => ?_) (fun q => ?_)
    · exact hx ((xSay a (scr xs ((i : Int) + 1))).1) s' o' c' _ _ _ hc' hr'
    · refine And.intro ⟨by decide, by decide⟩ ?_
      refine And.intro (fun _ => ?_) (fun q2 => absurd ((cmp_eq _ _).mpr (ho (by omega))) q2)
      exact hx ((xSay a (scr xs ((i : Int) + 1))).1) s' o' c' _ _ _ hc' hr'
  refine hK [1882] _ _ _ _ _ _ ?_
  refine And.intro (rng_of (by omega) (by omega)) ?_
  refine And.intro ⟨by omega, by omega⟩ ?_
  refine ⟨s, o, c, a, _, rfl, rfl, hc, ?_⟩
  exact ⟨fun e c' o' hc' ho => tail 0 c' o' hc' (congrArg Int.ofNat e) (fun _ => ho), fun e c' hc' => tail 1 c' o hc' (congrArg Int.ofNat e) (fun z => absurd (e.symm.trans z) (by decide)), fun e c' hc' => tail 2 c' o hc' (congrArg Int.ofNat e) (fun z => absurd (e.symm.trans z) (by decide))⟩
def kW_27 : MC := [(1927, .aload_n 1, 1), (1928, .aload_n 0, 1), (1929, .iload 4, 2), (1931, .iconst 1, 1), (1932, .iadd, 1), (1933, .iaload, 1), (1934, .invokevirtual 187, 3), (1937, .aload_n 2, 1), (1938, .aload_n 0, 1), (1939, .iload 4, 2), (1941, .iconst 1, 1), (1942, .iadd, 1), (1943, .iaload, 1), (1944, .invokevirtual 190, 3), (1947, .if_icmp .eq 5, 3), (1950, .iconst 0, 1), (1951, .ireturn, 1)]
theorem kW_27_ok : ∀ q ∈ kW_27, decode code q.1 = .ok (q.2.1, q.2.2) := by decide +kernel
abbrev ctW_27 : List (Nat × CE) := [(187, (2, 0, 0, false, (0, 9), T_X9_said)), (190, (2, 0, 0, false, (0, 10), T_X10_said))]
theorem cW_27 (l : Launch) (hl : l.stackTraces = false) : ∀ (i : Nat) (q : CE), mm_look ctW_27 i = some q → mm_CA l RL 60 i q := mm_ca_cons (Or.inl (mm_cbv wi_X9_said (tb3 (i := 91) rfl rfl) (m_X9_said l) (by decide) (by decide) rfl)) (mm_ca_cons (Or.inl (mm_cbv wi_X10_said (tb8 (i := 105) rfl rfl) (m_X10_said l) (by decide) (by decide) rfl)) (mm_ca_nil))
set_option maxHeartbeats 4000000 in
theorem lc_27 {K : Nat → LV → List MV → HP → Nat → Nat → Prop} {L : Nat} {xs : Nat → Int32} (hL3 : L ≤ 3072) {i : Nat} (hi : i + 6 ≤ L) (hK : mm_Cl (eLaw ctW_27 [] 0 0 [(2002, (L, scr xs))] true) kW_27 lawN (fun _ _ => False) K) {a : AS} {s : RS} {o : Int → Int64} {c : CS} (hc : CR a c) (hr : RR a s) (hx : ∀ (a' : AS) (s' : RS) (o' : Int → Int64) (c' : CS) (o5 o6 o7 : Option MV), CR a' c' → RR a' s' → K 1952 [some (mR 2002), some (mR 0), some (mR 1000), some (mR 1029), some (mI (i : Int)), o5, o6, o7] [] (hL s' o' c') 0 0) (o5 o6 o7 : Option MV) : K 1927 [some (mR 2002), some (mR 0), some (mR 1000), some (mR 1029), some (mI (i : Int)), o5, o6, o7] [] (hL s o c) 0 0 := by
  have hs : ∀ k : Int, mm_rng (scr xs k) := fun k => i32_rng _
  refine hK [1952] _ _ _ _ _ _ ?_
  refine And.intro (rng_of (by omega) (by omega)) ?_
  refine And.intro ⟨by omega, by omega⟩ ?_
  refine ⟨RH s [eL 1 o], c, a, _, rfl, rfl, hc, ?_⟩
  refine And.intro (rng_of (by omega) (by omega)) ?_
  refine And.intro ⟨by omega, by omega⟩ ?_
  refine ⟨(none, CH c, [eL 1 o], 24, c.2.2.2.1), s, a, _, rfl, rfl, hr, hs _, fun s' hr' hcode => ?_⟩
  refine And.intro (fun _ => ?_) (fun q => absurd rfl q)
  exact hx a s' o c _ _ _ hc hr'
