/-! large fields: by the field and the degree -/
def rIt (f s : Nat) : Nat := (([[1, 3, 3, 3, 5, 3, 3, 29, 17, 9, 5, 83], [2, 5, 7, 5, 7, 5, 16], [3, 3, 3, 29, 9, 83], [2, 7, 17, 37, 22], [3, 10, 23, 75], [3, 3, 17, 83], [5, 5, 5], [2, 18, 15], [2, 15, 19], [3, 29, 83], [3, 20], [2, 21], [5, 30], [7, 37], [7, 5]] : List (List Nat)).getD f []).getD (s - 1) 0
def rPt (f s : Nat) : Nat := (([[rP_2_1, rP_2_2, rP_2_3, rP_2_4, rP_2_5, rP_2_6, rP_2_7, rP_2_8, rP_2_9, rP_2_10, rP_2_11, rP_2_12], [rP_3_1, rP_3_2, rP_3_3, rP_3_4, rP_3_5, rP_3_6, rP_3_7], [rP_2_2, rP_2_4, rP_2_6, rP_2_8, rP_2_10, rP_2_12], [rP_5_1, rP_5_2, rP_5_3, rP_5_4, rP_5_5], [rP_7_1, rP_7_2, rP_7_3, rP_7_4], [rP_2_3, rP_2_6, rP_2_9, rP_2_12], [rP_3_2, rP_3_4, rP_3_6], [rP_11_1, rP_11_2, rP_11_3], [rP_13_1, rP_13_2, rP_13_3], [rP_2_4, rP_2_8, rP_2_12], [rP_17_1, rP_17_2], [rP_19_1, rP_19_2], [rP_23_1, rP_23_2], [rP_5_2, rP_5_4], [rP_3_3, rP_3_6]] : List (List Nat)).getD f []).getD (s - 1) 0
def rLt (f s : Nat) : Nat := (([[rL_2_1, rL_2_2, rL_2_3, rL_2_4, rL_2_5, rL_2_6, rL_2_7, rL_2_8, rL_2_9, rL_2_10, rL_2_11, rL_2_12], [rL_3_1, rL_3_2, rL_3_3, rL_3_4, rL_3_5, rL_3_6, rL_3_7], [rL_2_2, rL_2_4, rL_2_6, rL_2_8, rL_2_10, rL_2_12], [rL_5_1, rL_5_2, rL_5_3, rL_5_4, rL_5_5], [rL_7_1, rL_7_2, rL_7_3, rL_7_4], [rL_2_3, rL_2_6, rL_2_9, rL_2_12], [rL_3_2, rL_3_4, rL_3_6], [rL_11_1, rL_11_2, rL_11_3], [rL_13_1, rL_13_2, rL_13_3], [rL_2_4, rL_2_8, rL_2_12], [rL_17_1, rL_17_2], [rL_19_1, rL_19_2], [rL_23_1, rL_23_2], [rL_5_2, rL_5_4], [rL_3_3, rL_3_6]] : List (List Nat)).getD f []).getD (s - 1) 0
def cPt (f s : Nat) : Nat := (([[0, 0, 0, 0, 0, 0, 0, 0, 0, 0, 0, 0], [cP_1_1, cP_1_2, cP_1_3, cP_1_4, cP_1_5, cP_1_6, cP_1_7], [cP_2_1, cP_2_2, cP_2_3, cP_2_4, cP_2_5, cP_2_6], [cP_3_1, cP_3_2, cP_3_3, cP_3_4, cP_3_5], [cP_4_1, cP_4_2, cP_4_3, cP_4_4], [cP_5_1, cP_5_2, cP_5_3, cP_5_4], [cP_6_1, cP_6_2, cP_6_3], [cP_7_1, cP_7_2, cP_7_3], [cP_8_1, cP_8_2, cP_8_3], [cP_9_1, cP_9_2, cP_9_3], [cP_10_1, cP_10_2], [cP_11_1, cP_11_2], [cP_12_1, cP_12_2], [cP_13_1, cP_13_2], [cP_14_1, cP_14_2]] : List (List Nat)).getD f []).getD (s - 1) 0
def cLg (f s : Nat) : Nat := (([[0, 0, 0, 0, 0, 0, 0, 0, 0, 0, 0, 0], [cL_1_1, cL_1_2, cL_1_3, cL_1_4, cL_1_5, cL_1_6, cL_1_7], [cL_2_1, cL_2_2, cL_2_3, cL_2_4, cL_2_5, cL_2_6], [cL_3_1, cL_3_2, cL_3_3, cL_3_4, cL_3_5], [cL_4_1, cL_4_2, cL_4_3, cL_4_4], [cL_5_1, cL_5_2, cL_5_3, cL_5_4], [cL_6_1, cL_6_2, cL_6_3], [cL_7_1, cL_7_2, cL_7_3], [cL_8_1, cL_8_2, cL_8_3], [cL_9_1, cL_9_2, cL_9_3], [cL_10_1, cL_10_2], [cL_11_1, cL_11_2], [cL_12_1, cL_12_2], [cL_13_1, cL_13_2], [cL_14_1, cL_14_2]] : List (List Nat)).getD f []).getD (s - 1) 0
theorem s_12 {f s : Nat} (hf : f < 15) (hq : fQ f ^ s ≤ 4096) : s ≤ 12 := by
  have h1 : 2 ^ s ≤ fQ f ^ s := Nat.pow_le_pow_left (fbase hf).2.1 s
  have h2 : 2 ^ s ≤ 2 ^ 12 := by
    have : (2 : Nat) ^ 12 = 4096 := by decide
    omega
  exact (Nat.pow_le_pow_iff_right (by omega)).mp h2
theorem lr_all0 : ∀ s : Nat, 1 ≤ s → s ≤ 12 → fQ 0 ^ s ≤ 4096 → LRp (fP 0) (fK 0 * s) (rIt 0 s) (rPt 0 s) (rLt 0 s) (fQ 0 ^ s - 1)
  | 0, h, _, _ => absurd h (by decide)
  | 1, _, _, _ => lr_2_1
  | 2, _, _, _ => lr_2_2
  | 3, _, _, _ => lr_2_3
  | 4, _, _, _ => lr_2_4
  | 5, _, _, _ => lr_2_5
  | 6, _, _, _ => lr_2_6
  | 7, _, _, _ => lr_2_7
  | 8, _, _, _ => lr_2_8
  | 9, _, _, _ => lr_2_9
  | 10, _, _, _ => lr_2_10
  | 11, _, _, _ => lr_2_11
  | 12, _, _, _ => lr_2_12
  | n + 13, _, h, _ => absurd h (by omega)
theorem lr_all1 : ∀ s : Nat, 1 ≤ s → s ≤ 12 → fQ 1 ^ s ≤ 4096 → LRp (fP 1) (fK 1 * s) (rIt 1 s) (rPt 1 s) (rLt 1 s) (fQ 1 ^ s - 1)
  | 0, h, _, _ => absurd h (by decide)
  | 1, _, _, _ => lr_3_1
  | 2, _, _, _ => lr_3_2
  | 3, _, _, _ => lr_3_3
  | 4, _, _, _ => lr_3_4
  | 5, _, _, _ => lr_3_5
  | 6, _, _, _ => lr_3_6
  | 7, _, _, _ => lr_3_7
  | 8, _, _, h => absurd h (by decide)
  | 9, _, _, h => absurd h (by decide)
  | 10, _, _, h => absurd h (by decide)
  | 11, _, _, h => absurd h (by decide)
  | 12, _, _, h => absurd h (by decide)
  | n + 13, _, h, _ => absurd h (by omega)
theorem lr_all2 : ∀ s : Nat, 1 ≤ s → s ≤ 12 → fQ 2 ^ s ≤ 4096 → LRp (fP 2) (fK 2 * s) (rIt 2 s) (rPt 2 s) (rLt 2 s) (fQ 2 ^ s - 1)
  | 0, h, _, _ => absurd h (by decide)
  | 1, _, _, _ => lr_2_2
  | 2, _, _, _ => lr_2_4
  | 3, _, _, _ => lr_2_6
  | 4, _, _, _ => lr_2_8
  | 5, _, _, _ => lr_2_10
  | 6, _, _, _ => lr_2_12
  | 7, _, _, h => absurd h (by decide)
  | 8, _, _, h => absurd h (by decide)
  | 9, _, _, h => absurd h (by decide)
  | 10, _, _, h => absurd h (by decide)
  | 11, _, _, h => absurd h (by decide)
  | 12, _, _, h => absurd h (by decide)
  | n + 13, _, h, _ => absurd h (by omega)
theorem lr_all3 : ∀ s : Nat, 1 ≤ s → s ≤ 12 → fQ 3 ^ s ≤ 4096 → LRp (fP 3) (fK 3 * s) (rIt 3 s) (rPt 3 s) (rLt 3 s) (fQ 3 ^ s - 1)
  | 0, h, _, _ => absurd h (by decide)
  | 1, _, _, _ => lr_5_1
  | 2, _, _, _ => lr_5_2
  | 3, _, _, _ => lr_5_3
  | 4, _, _, _ => lr_5_4
  | 5, _, _, _ => lr_5_5
  | 6, _, _, h => absurd h (by decide)
  | 7, _, _, h => absurd h (by decide)
  | 8, _, _, h => absurd h (by decide)
  | 9, _, _, h => absurd h (by decide)
  | 10, _, _, h => absurd h (by decide)
  | 11, _, _, h => absurd h (by decide)
  | 12, _, _, h => absurd h (by decide)
  | n + 13, _, h, _ => absurd h (by omega)
theorem lr_all4 : ∀ s : Nat, 1 ≤ s → s ≤ 12 → fQ 4 ^ s ≤ 4096 → LRp (fP 4) (fK 4 * s) (rIt 4 s) (rPt 4 s) (rLt 4 s) (fQ 4 ^ s - 1)
  | 0, h, _, _ => absurd h (by decide)
  | 1, _, _, _ => lr_7_1
  | 2, _, _, _ => lr_7_2
  | 3, _, _, _ => lr_7_3
  | 4, _, _, _ => lr_7_4
  | 5, _, _, h => absurd h (by decide)
  | 6, _, _, h => absurd h (by decide)
  | 7, _, _, h => absurd h (by decide)
  | 8, _, _, h => absurd h (by decide)
  | 9, _, _, h => absurd h (by decide)
  | 10, _, _, h => absurd h (by decide)
  | 11, _, _, h => absurd h (by decide)
  | 12, _, _, h => absurd h (by decide)
  | n + 13, _, h, _ => absurd h (by omega)
theorem lr_all5 : ∀ s : Nat, 1 ≤ s → s ≤ 12 → fQ 5 ^ s ≤ 4096 → LRp (fP 5) (fK 5 * s) (rIt 5 s) (rPt 5 s) (rLt 5 s) (fQ 5 ^ s - 1)
  | 0, h, _, _ => absurd h (by decide)
  | 1, _, _, _ => lr_2_3
  | 2, _, _, _ => lr_2_6
  | 3, _, _, _ => lr_2_9
  | 4, _, _, _ => lr_2_12
  | 5, _, _, h => absurd h (by decide)
  | 6, _, _, h => absurd h (by decide)
  | 7, _, _, h => absurd h (by decide)
  | 8, _, _, h => absurd h (by decide)
  | 9, _, _, h => absurd h (by decide)
  | 10, _, _, h => absurd h (by decide)
  | 11, _, _, h => absurd h (by decide)
  | 12, _, _, h => absurd h (by decide)
  | n + 13, _, h, _ => absurd h (by omega)
theorem lr_all6 : ∀ s : Nat, 1 ≤ s → s ≤ 12 → fQ 6 ^ s ≤ 4096 → LRp (fP 6) (fK 6 * s) (rIt 6 s) (rPt 6 s) (rLt 6 s) (fQ 6 ^ s - 1)
  | 0, h, _, _ => absurd h (by decide)
  | 1, _, _, _ => lr_3_2
  | 2, _, _, _ => lr_3_4
  | 3, _, _, _ => lr_3_6
  | 4, _, _, h => absurd h (by decide)
  | 5, _, _, h => absurd h (by decide)
  | 6, _, _, h => absurd h (by decide)
  | 7, _, _, h => absurd h (by decide)
  | 8, _, _, h => absurd h (by decide)
  | 9, _, _, h => absurd h (by decide)
  | 10, _, _, h => absurd h (by decide)
  | 11, _, _, h => absurd h (by decide)
  | 12, _, _, h => absurd h (by decide)
  | n + 13, _, h, _ => absurd h (by omega)
theorem lr_all7 : ∀ s : Nat, 1 ≤ s → s ≤ 12 → fQ 7 ^ s ≤ 4096 → LRp (fP 7) (fK 7 * s) (rIt 7 s) (rPt 7 s) (rLt 7 s) (fQ 7 ^ s - 1)
  | 0, h, _, _ => absurd h (by decide)
  | 1, _, _, _ => lr_11_1
  | 2, _, _, _ => lr_11_2
  | 3, _, _, _ => lr_11_3
  | 4, _, _, h => absurd h (by decide)
  | 5, _, _, h => absurd h (by decide)
  | 6, _, _, h => absurd h (by decide)
  | 7, _, _, h => absurd h (by decide)
  | 8, _, _, h => absurd h (by decide)
  | 9, _, _, h => absurd h (by decide)
  | 10, _, _, h => absurd h (by decide)
  | 11, _, _, h => absurd h (by decide)
  | 12, _, _, h => absurd h (by decide)
  | n + 13, _, h, _ => absurd h (by omega)
theorem lr_all8 : ∀ s : Nat, 1 ≤ s → s ≤ 12 → fQ 8 ^ s ≤ 4096 → LRp (fP 8) (fK 8 * s) (rIt 8 s) (rPt 8 s) (rLt 8 s) (fQ 8 ^ s - 1)
  | 0, h, _, _ => absurd h (by decide)
  | 1, _, _, _ => lr_13_1
  | 2, _, _, _ => lr_13_2
  | 3, _, _, _ => lr_13_3
  | 4, _, _, h => absurd h (by decide)
  | 5, _, _, h => absurd h (by decide)
  | 6, _, _, h => absurd h (by decide)
  | 7, _, _, h => absurd h (by decide)
  | 8, _, _, h => absurd h (by decide)
  | 9, _, _, h => absurd h (by decide)
  | 10, _, _, h => absurd h (by decide)
  | 11, _, _, h => absurd h (by decide)
  | 12, _, _, h => absurd h (by decide)
  | n + 13, _, h, _ => absurd h (by omega)
theorem lr_all9 : ∀ s : Nat, 1 ≤ s → s ≤ 12 → fQ 9 ^ s ≤ 4096 → LRp (fP 9) (fK 9 * s) (rIt 9 s) (rPt 9 s) (rLt 9 s) (fQ 9 ^ s - 1)
  | 0, h, _, _ => absurd h (by decide)
  | 1, _, _, _ => lr_2_4
  | 2, _, _, _ => lr_2_8
  | 3, _, _, _ => lr_2_12
  | 4, _, _, h => absurd h (by decide)
  | 5, _, _, h => absurd h (by decide)
  | 6, _, _, h => absurd h (by decide)
  | 7, _, _, h => absurd h (by decide)
  | 8, _, _, h => absurd h (by decide)
  | 9, _, _, h => absurd h (by decide)
  | 10, _, _, h => absurd h (by decide)
  | 11, _, _, h => absurd h (by decide)
  | 12, _, _, h => absurd h (by decide)
  | n + 13, _, h, _ => absurd h (by omega)
theorem lr_all10 : ∀ s : Nat, 1 ≤ s → s ≤ 12 → fQ 10 ^ s ≤ 4096 → LRp (fP 10) (fK 10 * s) (rIt 10 s) (rPt 10 s) (rLt 10 s) (fQ 10 ^ s - 1)
  | 0, h, _, _ => absurd h (by decide)
  | 1, _, _, _ => lr_17_1
  | 2, _, _, _ => lr_17_2
  | 3, _, _, h => absurd h (by decide)
  | 4, _, _, h => absurd h (by decide)
  | 5, _, _, h => absurd h (by decide)
  | 6, _, _, h => absurd h (by decide)
  | 7, _, _, h => absurd h (by decide)
  | 8, _, _, h => absurd h (by decide)
  | 9, _, _, h => absurd h (by decide)
  | 10, _, _, h => absurd h (by decide)
  | 11, _, _, h => absurd h (by decide)
  | 12, _, _, h => absurd h (by decide)
  | n + 13, _, h, _ => absurd h (by omega)
theorem lr_all11 : ∀ s : Nat, 1 ≤ s → s ≤ 12 → fQ 11 ^ s ≤ 4096 → LRp (fP 11) (fK 11 * s) (rIt 11 s) (rPt 11 s) (rLt 11 s) (fQ 11 ^ s - 1)
  | 0, h, _, _ => absurd h (by decide)
  | 1, _, _, _ => lr_19_1
  | 2, _, _, _ => lr_19_2
  | 3, _, _, h => absurd h (by decide)
  | 4, _, _, h => absurd h (by decide)
  | 5, _, _, h => absurd h (by decide)
  | 6, _, _, h => absurd h (by decide)
  | 7, _, _, h => absurd h (by decide)
  | 8, _, _, h => absurd h (by decide)
  | 9, _, _, h => absurd h (by decide)
  | 10, _, _, h => absurd h (by decide)
  | 11, _, _, h => absurd h (by decide)
  | 12, _, _, h => absurd h (by decide)
  | n + 13, _, h, _ => absurd h (by omega)
theorem lr_all12 : ∀ s : Nat, 1 ≤ s → s ≤ 12 → fQ 12 ^ s ≤ 4096 → LRp (fP 12) (fK 12 * s) (rIt 12 s) (rPt 12 s) (rLt 12 s) (fQ 12 ^ s - 1)
  | 0, h, _, _ => absurd h (by decide)
  | 1, _, _, _ => lr_23_1
  | 2, _, _, _ => lr_23_2
  | 3, _, _, h => absurd h (by decide)
  | 4, _, _, h => absurd h (by decide)
  | 5, _, _, h => absurd h (by decide)
  | 6, _, _, h => absurd h (by decide)
  | 7, _, _, h => absurd h (by decide)
  | 8, _, _, h => absurd h (by decide)
  | 9, _, _, h => absurd h (by decide)
  | 10, _, _, h => absurd h (by decide)
  | 11, _, _, h => absurd h (by decide)
  | 12, _, _, h => absurd h (by decide)
  | n + 13, _, h, _ => absurd h (by omega)
theorem lr_all13 : ∀ s : Nat, 1 ≤ s → s ≤ 12 → fQ 13 ^ s ≤ 4096 → LRp (fP 13) (fK 13 * s) (rIt 13 s) (rPt 13 s) (rLt 13 s) (fQ 13 ^ s - 1)
  | 0, h, _, _ => absurd h (by decide)
  | 1, _, _, _ => lr_5_2
  | 2, _, _, _ => lr_5_4
  | 3, _, _, h => absurd h (by decide)
  | 4, _, _, h => absurd h (by decide)
  | 5, _, _, h => absurd h (by decide)
  | 6, _, _, h => absurd h (by decide)
  | 7, _, _, h => absurd h (by decide)
  | 8, _, _, h => absurd h (by decide)
  | 9, _, _, h => absurd h (by decide)
  | 10, _, _, h => absurd h (by decide)
  | 11, _, _, h => absurd h (by decide)
  | 12, _, _, h => absurd h (by decide)
  | n + 13, _, h, _ => absurd h (by omega)
theorem lr_all14 : ∀ s : Nat, 1 ≤ s → s ≤ 12 → fQ 14 ^ s ≤ 4096 → LRp (fP 14) (fK 14 * s) (rIt 14 s) (rPt 14 s) (rLt 14 s) (fQ 14 ^ s - 1)
  | 0, h, _, _ => absurd h (by decide)
  | 1, _, _, _ => lr_3_3
  | 2, _, _, _ => lr_3_6
  | 3, _, _, h => absurd h (by decide)
  | 4, _, _, h => absurd h (by decide)
  | 5, _, _, h => absurd h (by decide)
  | 6, _, _, h => absurd h (by decide)
  | 7, _, _, h => absurd h (by decide)
  | 8, _, _, h => absurd h (by decide)
  | 9, _, _, h => absurd h (by decide)
  | 10, _, _, h => absurd h (by decide)
  | 11, _, _, h => absurd h (by decide)
  | 12, _, _, h => absurd h (by decide)
  | n + 13, _, h, _ => absurd h (by omega)
theorem lr_all : ∀ {f s : Nat}, f < 15 → 1 ≤ s → fQ f ^ s ≤ 4096 → LRp (fP f) (fK f * s) (rIt f s) (rPt f s) (rLt f s) (fQ f ^ s - 1)
  | 0, s, hf, h1, hq => lr_all0 s h1 (s_12 hf hq) hq
  | 1, s, hf, h1, hq => lr_all1 s h1 (s_12 hf hq) hq
  | 2, s, hf, h1, hq => lr_all2 s h1 (s_12 hf hq) hq
  | 3, s, hf, h1, hq => lr_all3 s h1 (s_12 hf hq) hq
  | 4, s, hf, h1, hq => lr_all4 s h1 (s_12 hf hq) hq
  | 5, s, hf, h1, hq => lr_all5 s h1 (s_12 hf hq) hq
  | 6, s, hf, h1, hq => lr_all6 s h1 (s_12 hf hq) hq
  | 7, s, hf, h1, hq => lr_all7 s h1 (s_12 hf hq) hq
  | 8, s, hf, h1, hq => lr_all8 s h1 (s_12 hf hq) hq
  | 9, s, hf, h1, hq => lr_all9 s h1 (s_12 hf hq) hq
  | 10, s, hf, h1, hq => lr_all10 s h1 (s_12 hf hq) hq
  | 11, s, hf, h1, hq => lr_all11 s h1 (s_12 hf hq) hq
  | 12, s, hf, h1, hq => lr_all12 s h1 (s_12 hf hq) hq
  | 13, s, hf, h1, hq => lr_all13 s h1 (s_12 hf hq) hq
  | 14, s, hf, h1, hq => lr_all14 s h1 (s_12 hf hq) hq
  | n + 15, _, h, _, _ => absurd h (by omega)
theorem lc_all1 : ∀ s : Nat, 1 ≤ s → s ≤ 12 → fQ 1 ^ s ≤ 4096 → LCp 1 s (cLo 1 s) (cPt 1 s) (cLg 1 s) (fQ 1 ^ s - 1) (rPt 1 s) (rLt 1 s) (fP 1) (fK 1 * s)
  | 0, h, _, _ => absurd h (by decide)
  | 1, _, _, _ => lc_1_1
  | 2, _, _, _ => lc_1_2
  | 3, _, _, _ => lc_1_3
  | 4, _, _, _ => lc_1_4
  | 5, _, _, _ => lc_1_5
  | 6, _, _, _ => lc_1_6
  | 7, _, _, _ => lc_1_7
  | 8, _, _, h => absurd h (by decide)
  | 9, _, _, h => absurd h (by decide)
  | 10, _, _, h => absurd h (by decide)
  | 11, _, _, h => absurd h (by decide)
  | 12, _, _, h => absurd h (by decide)
  | n + 13, _, h, _ => absurd h (by omega)
theorem lc_all2 : ∀ s : Nat, 1 ≤ s → s ≤ 12 → fQ 2 ^ s ≤ 4096 → LCp 2 s (cLo 2 s) (cPt 2 s) (cLg 2 s) (fQ 2 ^ s - 1) (rPt 2 s) (rLt 2 s) (fP 2) (fK 2 * s)
  | 0, h, _, _ => absurd h (by decide)
  | 1, _, _, _ => lc_2_1
  | 2, _, _, _ => lc_2_2
  | 3, _, _, _ => lc_2_3
  | 4, _, _, _ => lc_2_4
  | 5, _, _, _ => lc_2_5
  | 6, _, _, _ => lc_2_6
  | 7, _, _, h => absurd h (by decide)
  | 8, _, _, h => absurd h (by decide)
  | 9, _, _, h => absurd h (by decide)
  | 10, _, _, h => absurd h (by decide)
  | 11, _, _, h => absurd h (by decide)
  | 12, _, _, h => absurd h (by decide)
  | n + 13, _, h, _ => absurd h (by omega)
theorem lc_all3 : ∀ s : Nat, 1 ≤ s → s ≤ 12 → fQ 3 ^ s ≤ 4096 → LCp 3 s (cLo 3 s) (cPt 3 s) (cLg 3 s) (fQ 3 ^ s - 1) (rPt 3 s) (rLt 3 s) (fP 3) (fK 3 * s)
  | 0, h, _, _ => absurd h (by decide)
  | 1, _, _, _ => lc_3_1
  | 2, _, _, _ => lc_3_2
  | 3, _, _, _ => lc_3_3
  | 4, _, _, _ => lc_3_4
  | 5, _, _, _ => lc_3_5
  | 6, _, _, h => absurd h (by decide)
  | 7, _, _, h => absurd h (by decide)
  | 8, _, _, h => absurd h (by decide)
  | 9, _, _, h => absurd h (by decide)
  | 10, _, _, h => absurd h (by decide)
  | 11, _, _, h => absurd h (by decide)
  | 12, _, _, h => absurd h (by decide)
  | n + 13, _, h, _ => absurd h (by omega)
theorem lc_all4 : ∀ s : Nat, 1 ≤ s → s ≤ 12 → fQ 4 ^ s ≤ 4096 → LCp 4 s (cLo 4 s) (cPt 4 s) (cLg 4 s) (fQ 4 ^ s - 1) (rPt 4 s) (rLt 4 s) (fP 4) (fK 4 * s)
  | 0, h, _, _ => absurd h (by decide)
  | 1, _, _, _ => lc_4_1
  | 2, _, _, _ => lc_4_2
  | 3, _, _, _ => lc_4_3
  | 4, _, _, _ => lc_4_4
  | 5, _, _, h => absurd h (by decide)
  | 6, _, _, h => absurd h (by decide)
  | 7, _, _, h => absurd h (by decide)
  | 8, _, _, h => absurd h (by decide)
  | 9, _, _, h => absurd h (by decide)
  | 10, _, _, h => absurd h (by decide)
  | 11, _, _, h => absurd h (by decide)
  | 12, _, _, h => absurd h (by decide)
  | n + 13, _, h, _ => absurd h (by omega)
theorem lc_all5 : ∀ s : Nat, 1 ≤ s → s ≤ 12 → fQ 5 ^ s ≤ 4096 → LCp 5 s (cLo 5 s) (cPt 5 s) (cLg 5 s) (fQ 5 ^ s - 1) (rPt 5 s) (rLt 5 s) (fP 5) (fK 5 * s)
  | 0, h, _, _ => absurd h (by decide)
  | 1, _, _, _ => lc_5_1
  | 2, _, _, _ => lc_5_2
  | 3, _, _, _ => lc_5_3
  | 4, _, _, _ => lc_5_4
  | 5, _, _, h => absurd h (by decide)
  | 6, _, _, h => absurd h (by decide)
  | 7, _, _, h => absurd h (by decide)
  | 8, _, _, h => absurd h (by decide)
  | 9, _, _, h => absurd h (by decide)
  | 10, _, _, h => absurd h (by decide)
  | 11, _, _, h => absurd h (by decide)
  | 12, _, _, h => absurd h (by decide)
  | n + 13, _, h, _ => absurd h (by omega)
theorem lc_all6 : ∀ s : Nat, 1 ≤ s → s ≤ 12 → fQ 6 ^ s ≤ 4096 → LCp 6 s (cLo 6 s) (cPt 6 s) (cLg 6 s) (fQ 6 ^ s - 1) (rPt 6 s) (rLt 6 s) (fP 6) (fK 6 * s)
  | 0, h, _, _ => absurd h (by decide)
  | 1, _, _, _ => lc_6_1
  | 2, _, _, _ => lc_6_2
  | 3, _, _, _ => lc_6_3
  | 4, _, _, h => absurd h (by decide)
  | 5, _, _, h => absurd h (by decide)
  | 6, _, _, h => absurd h (by decide)
  | 7, _, _, h => absurd h (by decide)
  | 8, _, _, h => absurd h (by decide)
  | 9, _, _, h => absurd h (by decide)
  | 10, _, _, h => absurd h (by decide)
  | 11, _, _, h => absurd h (by decide)
  | 12, _, _, h => absurd h (by decide)
  | n + 13, _, h, _ => absurd h (by omega)
theorem lc_all7 : ∀ s : Nat, 1 ≤ s → s ≤ 12 → fQ 7 ^ s ≤ 4096 → LCp 7 s (cLo 7 s) (cPt 7 s) (cLg 7 s) (fQ 7 ^ s - 1) (rPt 7 s) (rLt 7 s) (fP 7) (fK 7 * s)
  | 0, h, _, _ => absurd h (by decide)
  | 1, _, _, _ => lc_7_1
  | 2, _, _, _ => lc_7_2
  | 3, _, _, _ => lc_7_3
  | 4, _, _, h => absurd h (by decide)
  | 5, _, _, h => absurd h (by decide)
  | 6, _, _, h => absurd h (by decide)
  | 7, _, _, h => absurd h (by decide)
  | 8, _, _, h => absurd h (by decide)
  | 9, _, _, h => absurd h (by decide)
  | 10, _, _, h => absurd h (by decide)
  | 11, _, _, h => absurd h (by decide)
  | 12, _, _, h => absurd h (by decide)
  | n + 13, _, h, _ => absurd h (by omega)
theorem lc_all8 : ∀ s : Nat, 1 ≤ s → s ≤ 12 → fQ 8 ^ s ≤ 4096 → LCp 8 s (cLo 8 s) (cPt 8 s) (cLg 8 s) (fQ 8 ^ s - 1) (rPt 8 s) (rLt 8 s) (fP 8) (fK 8 * s)
  | 0, h, _, _ => absurd h (by decide)
  | 1, _, _, _ => lc_8_1
  | 2, _, _, _ => lc_8_2
  | 3, _, _, _ => lc_8_3
  | 4, _, _, h => absurd h (by decide)
  | 5, _, _, h => absurd h (by decide)
  | 6, _, _, h => absurd h (by decide)
  | 7, _, _, h => absurd h (by decide)
  | 8, _, _, h => absurd h (by decide)
  | 9, _, _, h => absurd h (by decide)
  | 10, _, _, h => absurd h (by decide)
  | 11, _, _, h => absurd h (by decide)
  | 12, _, _, h => absurd h (by decide)
  | n + 13, _, h, _ => absurd h (by omega)
theorem lc_all9 : ∀ s : Nat, 1 ≤ s → s ≤ 12 → fQ 9 ^ s ≤ 4096 → LCp 9 s (cLo 9 s) (cPt 9 s) (cLg 9 s) (fQ 9 ^ s - 1) (rPt 9 s) (rLt 9 s) (fP 9) (fK 9 * s)
  | 0, h, _, _ => absurd h (by decide)
  | 1, _, _, _ => lc_9_1
  | 2, _, _, _ => lc_9_2
  | 3, _, _, _ => lc_9_3
  | 4, _, _, h => absurd h (by decide)
  | 5, _, _, h => absurd h (by decide)
  | 6, _, _, h => absurd h (by decide)
  | 7, _, _, h => absurd h (by decide)
  | 8, _, _, h => absurd h (by decide)
  | 9, _, _, h => absurd h (by decide)
  | 10, _, _, h => absurd h (by decide)
  | 11, _, _, h => absurd h (by decide)
  | 12, _, _, h => absurd h (by decide)
  | n + 13, _, h, _ => absurd h (by omega)
theorem lc_all10 : ∀ s : Nat, 1 ≤ s → s ≤ 12 → fQ 10 ^ s ≤ 4096 → LCp 10 s (cLo 10 s) (cPt 10 s) (cLg 10 s) (fQ 10 ^ s - 1) (rPt 10 s) (rLt 10 s) (fP 10) (fK 10 * s)
  | 0, h, _, _ => absurd h (by decide)
  | 1, _, _, _ => lc_10_1
  | 2, _, _, _ => lc_10_2
  | 3, _, _, h => absurd h (by decide)
  | 4, _, _, h => absurd h (by decide)
  | 5, _, _, h => absurd h (by decide)
  | 6, _, _, h => absurd h (by decide)
  | 7, _, _, h => absurd h (by decide)
  | 8, _, _, h => absurd h (by decide)
  | 9, _, _, h => absurd h (by decide)
  | 10, _, _, h => absurd h (by decide)
  | 11, _, _, h => absurd h (by decide)
  | 12, _, _, h => absurd h (by decide)
  | n + 13, _, h, _ => absurd h (by omega)
theorem lc_all11 : ∀ s : Nat, 1 ≤ s → s ≤ 12 → fQ 11 ^ s ≤ 4096 → LCp 11 s (cLo 11 s) (cPt 11 s) (cLg 11 s) (fQ 11 ^ s - 1) (rPt 11 s) (rLt 11 s) (fP 11) (fK 11 * s)
  | 0, h, _, _ => absurd h (by decide)
  | 1, _, _, _ => lc_11_1
  | 2, _, _, _ => lc_11_2
  | 3, _, _, h => absurd h (by decide)
  | 4, _, _, h => absurd h (by decide)
  | 5, _, _, h => absurd h (by decide)
  | 6, _, _, h => absurd h (by decide)
  | 7, _, _, h => absurd h (by decide)
  | 8, _, _, h => absurd h (by decide)
  | 9, _, _, h => absurd h (by decide)
  | 10, _, _, h => absurd h (by decide)
  | 11, _, _, h => absurd h (by decide)
  | 12, _, _, h => absurd h (by decide)
  | n + 13, _, h, _ => absurd h (by omega)
theorem lc_all12 : ∀ s : Nat, 1 ≤ s → s ≤ 12 → fQ 12 ^ s ≤ 4096 → LCp 12 s (cLo 12 s) (cPt 12 s) (cLg 12 s) (fQ 12 ^ s - 1) (rPt 12 s) (rLt 12 s) (fP 12) (fK 12 * s)
  | 0, h, _, _ => absurd h (by decide)
  | 1, _, _, _ => lc_12_1
  | 2, _, _, _ => lc_12_2
  | 3, _, _, h => absurd h (by decide)
  | 4, _, _, h => absurd h (by decide)
  | 5, _, _, h => absurd h (by decide)
  | 6, _, _, h => absurd h (by decide)
  | 7, _, _, h => absurd h (by decide)
  | 8, _, _, h => absurd h (by decide)
  | 9, _, _, h => absurd h (by decide)
  | 10, _, _, h => absurd h (by decide)
  | 11, _, _, h => absurd h (by decide)
  | 12, _, _, h => absurd h (by decide)
  | n + 13, _, h, _ => absurd h (by omega)
theorem lc_all13 : ∀ s : Nat, 1 ≤ s → s ≤ 12 → fQ 13 ^ s ≤ 4096 → LCp 13 s (cLo 13 s) (cPt 13 s) (cLg 13 s) (fQ 13 ^ s - 1) (rPt 13 s) (rLt 13 s) (fP 13) (fK 13 * s)
  | 0, h, _, _ => absurd h (by decide)
  | 1, _, _, _ => lc_13_1
  | 2, _, _, _ => lc_13_2
  | 3, _, _, h => absurd h (by decide)
  | 4, _, _, h => absurd h (by decide)
  | 5, _, _, h => absurd h (by decide)
  | 6, _, _, h => absurd h (by decide)
  | 7, _, _, h => absurd h (by decide)
  | 8, _, _, h => absurd h (by decide)
  | 9, _, _, h => absurd h (by decide)
  | 10, _, _, h => absurd h (by decide)
  | 11, _, _, h => absurd h (by decide)
  | 12, _, _, h => absurd h (by decide)
  | n + 13, _, h, _ => absurd h (by omega)
theorem lc_all14 : ∀ s : Nat, 1 ≤ s → s ≤ 12 → fQ 14 ^ s ≤ 4096 → LCp 14 s (cLo 14 s) (cPt 14 s) (cLg 14 s) (fQ 14 ^ s - 1) (rPt 14 s) (rLt 14 s) (fP 14) (fK 14 * s)
  | 0, h, _, _ => absurd h (by decide)
  | 1, _, _, _ => lc_14_1
  | 2, _, _, _ => lc_14_2
  | 3, _, _, h => absurd h (by decide)
  | 4, _, _, h => absurd h (by decide)
  | 5, _, _, h => absurd h (by decide)
  | 6, _, _, h => absurd h (by decide)
  | 7, _, _, h => absurd h (by decide)
  | 8, _, _, h => absurd h (by decide)
  | 9, _, _, h => absurd h (by decide)
  | 10, _, _, h => absurd h (by decide)
  | 11, _, _, h => absurd h (by decide)
  | 12, _, _, h => absurd h (by decide)
  | n + 13, _, h, _ => absurd h (by omega)
theorem lc_all : ∀ {f s : Nat}, f < 15 → 1 ≤ f → 1 ≤ s → fQ f ^ s ≤ 4096 → LCp f s (cLo f s) (cPt f s) (cLg f s) (fQ f ^ s - 1) (rPt f s) (rLt f s) (fP f) (fK f * s)
  | 0, _, _, h, _, _ => absurd h (by decide)
  | 1, s, hf, _, h1, hq => lc_all1 s h1 (s_12 hf hq) hq
  | 2, s, hf, _, h1, hq => lc_all2 s h1 (s_12 hf hq) hq
  | 3, s, hf, _, h1, hq => lc_all3 s h1 (s_12 hf hq) hq
  | 4, s, hf, _, h1, hq => lc_all4 s h1 (s_12 hf hq) hq
  | 5, s, hf, _, h1, hq => lc_all5 s h1 (s_12 hf hq) hq
  | 6, s, hf, _, h1, hq => lc_all6 s h1 (s_12 hf hq) hq
  | 7, s, hf, _, h1, hq => lc_all7 s h1 (s_12 hf hq) hq
  | 8, s, hf, _, h1, hq => lc_all8 s h1 (s_12 hf hq) hq
  | 9, s, hf, _, h1, hq => lc_all9 s h1 (s_12 hf hq) hq
  | 10, s, hf, _, h1, hq => lc_all10 s h1 (s_12 hf hq) hq
  | 11, s, hf, _, h1, hq => lc_all11 s h1 (s_12 hf hq) hq
  | 12, s, hf, _, h1, hq => lc_all12 s h1 (s_12 hf hq) hq
  | 13, s, hf, _, h1, hq => lc_all13 s h1 (s_12 hf hq) hq
  | 14, s, hf, _, h1, hq => lc_all14 s h1 (s_12 hf hq) hq
  | n + 15, _, h, _, _, _ => absurd h (by omega)
theorem q1_dv {q : Nat} (hq : 1 ≤ q) : ∀ s, ∃ c, q ^ s = (q - 1) * c + 1
  | 0 => ⟨0, rfl⟩
  | s + 1 => by
    obtain ⟨c, hc⟩ := q1_dv hq s
    refine ⟨c * q + 1, ?_⟩
    rw [Nat.pow_succ, hc, Nat.add_mul, Nat.mul_add, Nat.mul_assoc]
    omega
theorem q1_md {q d s : Nat} (hq : 1 ≤ q) (hd : (q - 1) % d = 0) : (q ^ s - 1) % d = 0 := by
  obtain ⟨c, hc⟩ := q1_dv hq s
  rw [hc, Nat.add_sub_cancel, Nat.mul_mod, hd, Nat.zero_mul, Nat.zero_mod]
/-- how many ways -/
def liX (f s d e : Nat) : Nat := liS (rLt f s) (fQ f ^ s - 1) d e (lsL (fP f) (fK f * s))
theorem li_cmp {f s d e : Nat} (hf : f < 15) (h1 : 1 ≤ s) (hq : fQ f ^ s ≤ 4096) (hd : 1 ≤ d) (hd2 : (fQ f - 1) % d = 0) (he : 1 ≤ e) (he2 : (fQ f - 1) % e = 0) : (d = 1 ∨ e = 1 → liX f s d e = fQ f ^ s) ∧ (¬ (d = 1 ∨ e = 1) → 1 ≤ f ∧ liX f s d e = liS (cLg f s) (fQ f ^ s - 1) d e (oLs f s)) := by
  have hb := fbase hf
  have hm : 1 < fQ f ^ s := Nat.one_lt_pow (by omega) (by omega)
  obtain ⟨w1, w2, w3⟩ := lr_all hf h1 hq
  have md := q1_md (s := s) (show 1 ≤ fQ f by omega) hd2
  have me := q1_md (s := s) (show 1 ≤ fQ f by omega) he2
  constructor
  · intro h
    unfold liX
    rcases h with rfl | rfl
    · rw [li_d1 w1 (by omega) he me w3]; omega
    · rw [li_e1 w1 (by omega) hd md]; omega
  · intro h
    have hf1 : 1 ≤ f := Nat.pos_of_ne_zero (fun z => by
      subst z
      have hd2 : 1 % d = 0 := hd2
      by_cases q : d = 1
      · exact h (Or.inl q)
      · rw [Nat.mod_eq_of_lt (by omega)] at hd2
        omega)
    obtain ⟨v1, v2, u, u', v3⟩ := lc_all hf hf1 h1 hq
    exact ⟨hf1, li_is w1 v1 v3 hd md he me (fun v hv => (w3 v hv).1)⟩
def xLifted (f : Nat) (d e s : Int) : Nat × Int := if (1 ≤ d ∧ 1 ≤ e ∧ 1 ≤ s ∧ s ≤ 12 ∧ ((fQ f : Int) - 1) % d = 0 ∧ ((fQ f : Int) - 1) % e = 0) ∧ fQ f ^ s.toNat ≤ 4096 then (0, (liX f s.toNat d.toNat e.toNat : Int)) else (1, 0)
