/-! rows copied -/
def T_arraycopy : Tr := fun av h N _ => ∃ r r2 n : Nat, av = [mQ r, mI 0, mQ r2, mI 0, mI n] ∧ h.1 = none ∧ n ≤ 220 ∧ r < h.2.2.2.1 ∧ r2 < h.2.2.2.1 ∧ N none (mm_setR h r2 (fun j => if 0 ≤ j ∧ j < (n : Int) then h.2.2.2.2 r j else h.2.2.2.2 r2 j))
theorem cp_w : nativeFrameWords "java/lang/System" "arraycopy" 5 + 11 ≤ 100 := by decide +kernel
theorem mm_CQ_copy {l : Launch} {own : String} {lev i : Nat} (hl : Jvm.Cond.methodLink own i arraycopyName ∈ mm_gt) (h1 : 3 ≤ lev) : mm_CQ l own lev i (5, 0, 0, false, (1, 0), T_arraycopy) := by
  refine ⟨rfl, ?_⟩
  intro p e R s m args below meth c Q cc g E C hSd hRf hRl hRc hRs pc ins hd av rest lv h cn sn N' hkind hlen hwd hcn hsn hT hk
  obtain ⟨hx, hb, hown, hts, hK, hB, -⟩ := C
  rcases hkind with ⟨-, hr⟩ | ⟨rfl, hr⟩ | ⟨-, hr⟩
  · cases hr
  · obtain ⟨r, r2, n, rfl, htop, hn, hr1, hr2, hN⟩ := hT
    intro H locs ls hH hS hL hs
    have hsr : mm_okS rest := mm_okS_of _ (fun v hv => mm_okS_mem _ hs v (List.mem_append_right _ hv))
    have hsum : ((rest.map (mm_cv g)).map fun v => v.category).sum ≤ 8 := by rw [mm_wdle]; exact hwd
    obtain ⟨hP, hD, ok1, ok2, okr, hbs, -⟩ := hH
    have hn32 : mm_rng (n : Int) := rng_nat (by omega)
    have cn32 : (Int32.ofInt (n : Int)).toNatClampNeg = n := by
      have := mm_cl hn32 (by omega)
      omega
    have c0 : (Int32.ofInt 0).toNatClampNeg = 0 := by decide
    have n0 : ¬ (Int32.ofInt 0) < 0 := by decide
    have nn : ¬ (Int32.ofInt (n : Int)) < 0 := by
      rw [mm_z32, mm_lt32 hn32 mm_rng0]
      omega
    have hcw := cp_w
    refine va_copyi (rest := rest.map (mm_cv g)) (ls := ls) (sp := Int32.ofInt 0) (dp := Int32.ofInt 0) (n := Int32.ofInt (n : Int)) hx hb hL.1.1.symm hown (hts _ hl) (hts _ (tb4 (i := 67) rfl rfl)) (hts _ (tb4 (i := 66) rfl rfl)) (hts _ (tb1 (i := 18) rfl rfl)) hK hP hD hS (h.2.1.length + (h.2.2.1.length + r)) (h.2.1.length + (h.2.2.1.length + r2)) 0 0 (mm_wl_getR g hr1) (mm_wl_getR g hr2) rfl rfl rfl n0 n0 nn (by rw [c0, cn32]; omega) (by rw [c0, cn32]; omega) (fun _ _ => rfl) (by omega) (by omega) hd ?_
    intro H1 locs1 hP1 hD1 hS1
    have e : mm_row g (fun j => if 0 ≤ j ∧ j < (n : Int) then h.2.2.2.2 r j else h.2.2.2.2 r2 j) = .inl (g.2.1 0, 220, .inl (va_cpy (fun j => Int32.ofInt (h.2.2.2.2 r (j : Int))) (fun j => Int32.ofInt (h.2.2.2.2 r2 (j : Int))) (Int32.ofInt 0).toNatClampNeg (Int32.ofInt 0).toNatClampNeg (Int32.ofInt (n : Int)).toNatClampNeg)) := by
      rw [c0, cn32]
      unfold mm_row va_cpy
      congr 4
      funext j
      show Int32.ofInt (if 0 ≤ (j : Int) ∧ (j : Int) < (n : Int) then h.2.2.2.2 r (j : Int) else h.2.2.2.2 r2 (j : Int)) = if 0 ≤ j ∧ j < 0 + n then Int32.ofInt (h.2.2.2.2 r ((0 + (j - 0) : Nat) : Int)) else Int32.ofInt (h.2.2.2.2 r2 (j : Int))
      by_cases q : j < n
      · rw [if_pos (by omega), if_pos (by omega)]
        simp
      · rw [if_neg (by omega), if_neg (by omega)]
    rw [← e] at hP1 hD1
    rw [mm_wl_setR g hr2] at hP1 hD1
    refine hk none _ hN H1 locs1 ls ⟨hP1, hD1, ok1, ok2, fun q hq j hj => ?_, ?_, fun t ht => ?_⟩ hS1 hL hsr
    · show mm_rng (mm_updR h.2.2.2.2 r2 _ q (j : Int))
      unfold mm_updR
      split
      · show mm_rng (if 0 ≤ (j : Int) ∧ (j : Int) < (n : Int) then h.2.2.2.2 r (j : Int) else h.2.2.2.2 r2 (j : Int))
        split
        · exact okr r hr1 j hj
        · exact okr r2 hr2 j hj
      · exact okr q hq j hj
    · exact Nat.le_trans hB hS1.1
    · have ht : h.1 = some t := ht
      rw [htop] at ht
      cases ht
  · cases hr
