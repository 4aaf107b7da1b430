/-! the component: marking; how many bits -/
theorem bv_ush {s n : Nat} (hs : s < 2147483648) : (Int32.ofInt (s : Int)).toBitVec >>> n = (Int32.ofInt ((s / 2 ^ n : Nat) : Int)).toBitVec := by
  have h := Nat.div_le_self s (2 ^ n)
  simp only [Int32.toBitVec_ofInt, BitVec.ofInt_natCast]
  apply BitVec.eq_of_toNat_eq
  rw [BitVec.toNat_ushiftRight]
  simp only [BitVec.toNat_ofNat]
  rw [Nat.mod_eq_of_lt (by omega), Nat.mod_eq_of_lt (by omega), Nat.shiftRight_eq_div_pow]
theorem ushr_1 {s : Nat} (hs : s < 2147483648) : mm_ushr (s : Int) 1 = ((s / 2 : Nat) : Int) := by
  have h := Nat.div_le_self s 2
  have e : ((Int32.ofInt (s : Int)).toUInt32 >>> ((Int32.ofInt 1).toUInt32 &&& Int32.toUInt32 31)).toInt32 = Int32.ofInt ((s / 2 ^ 1 : Nat) : Int) := by
    apply Int32.toBitVec_inj.mp
    exact bv_ush (n := 1) hs
  unfold mm_ushr
  rw [e, mm_ti (rng_nat (by omega))]
theorem ushr_2 {s : Nat} (hs : s < 2147483648) : mm_ushr (s : Int) 2 = ((s / 4 : Nat) : Int) := by
  have h := Nat.div_le_self s 4
  have e : ((Int32.ofInt (s : Int)).toUInt32 >>> ((Int32.ofInt 2).toUInt32 &&& Int32.toUInt32 31)).toInt32 = Int32.ofInt ((s / 2 ^ 2 : Nat) : Int) := by
    apply Int32.toBitVec_inj.mp
    exact bv_ush (n := 2) hs
  unfold mm_ushr
  rw [e, mm_ti (rng_nat (by omega))]
theorem ushr_4 {s : Nat} (hs : s < 2147483648) : mm_ushr (s : Int) 4 = ((s / 16 : Nat) : Int) := by
  have h := Nat.div_le_self s 16
  have e : ((Int32.ofInt (s : Int)).toUInt32 >>> ((Int32.ofInt 4).toUInt32 &&& Int32.toUInt32 31)).toInt32 = Int32.ofInt ((s / 2 ^ 4 : Nat) : Int) := by
    apply Int32.toBitVec_inj.mp
    exact bv_ush (n := 4) hs
  unfold mm_ushr
  rw [e, mm_ti (rng_nat (by omega))]
theorem ushr_8 {s : Nat} (hs : s < 2147483648) : mm_ushr (s : Int) 8 = ((s / 256 : Nat) : Int) := by
  have h := Nat.div_le_self s 256
  have e : ((Int32.ofInt (s : Int)).toUInt32 >>> ((Int32.ofInt 8).toUInt32 &&& Int32.toUInt32 31)).toInt32 = Int32.ofInt ((s / 2 ^ 8 : Nat) : Int) := by
    apply Int32.toBitVec_inj.mp
    exact bv_ush (n := 8) hs
  unfold mm_ushr
  rw [e, mm_ti (rng_nat (by omega))]
theorem ushr_16 {s : Nat} (hs : s < 2147483648) : mm_ushr (s : Int) 16 = ((s / 65536 : Nat) : Int) := by
  have h := Nat.div_le_self s 65536
  have e : ((Int32.ofInt (s : Int)).toUInt32 >>> ((Int32.ofInt 16).toUInt32 &&& Int32.toUInt32 31)).toInt32 = Int32.ofInt ((s / 2 ^ 16 : Nat) : Int) := by
    apply Int32.toBitVec_inj.mp
    exact bv_ush (n := 16) hs
  unfold mm_ushr
  rw [e, mm_ti (rng_nat (by omega))]
theorem and_sp {r t A B : Nat} (hr : r < 256) (ht : t < 256) : (r + 256 * A) &&& (t + 256 * B) = (r &&& t) + 256 * (A &&& B) := by
  have h1 := Nat.and_mod_two_pow (a := r + 256 * A) (b := t + 256 * B) (n := 8)
  have h2 : ((r + 256 * A) &&& (t + 256 * B)) / 256 = A &&& B := by
    have h := Nat.shiftRight_and_distrib (a := r + 256 * A) (b := t + 256 * B) (i := 8)
    rw [Nat.shiftRight_eq_div_pow, Nat.shiftRight_eq_div_pow, Nat.shiftRight_eq_div_pow, show (2 : Nat) ^ 8 = 256 from rfl, show (r + 256 * A) / 256 = A by omega, show (t + 256 * B) / 256 = B by omega] at h
    exact h
  rw [show (2 : Nat) ^ 8 = 256 from rfl, show (r + 256 * A) % 256 = r by omega, show (t + 256 * B) % 256 = t by omega] at h1
  have h3 := Nat.div_add_mod ((r + 256 * A) &&& (t + 256 * B)) 256
  omega
def pg1 (a : Nat) : Nat := a / 2 &&& 85
def ph1 (a : Nat) : Nat := a - pg1 a
def ph2 (a : Nat) : Nat := (ph1 a &&& 51) + (ph1 a / 4 &&& 51)
def ph3 (a : Nat) : Nat := (ph2 a + ph2 a / 16) &&& 15
theorem pk_1 : (List.range 256).all (fun a => Nat.beq ((a / 2 + 128) &&& 85) (pg1 a) && Nat.ble (pg1 a) a) = true := by decide +kernel
theorem pk_2 : (List.range 256).all (fun a => (List.range 4).all (fun e => Nat.beq ((ph1 a / 4 + 64 * e) &&& 51) (ph1 a / 4 &&& 51)) && (Nat.ble (ph2 a) 68 && Nat.ble (ph2 a % 16) 4)) = true := by decide +kernel
theorem pk_3 : (List.range 256).all (fun a => (List.range 5).all (fun e => Nat.beq ((ph2 a + ph2 a / 16 + 16 * e) &&& 15) (ph3 a)) && (Nat.beq (ph3 a) (cntB (bitB a) 8) && Nat.ble (ph3 a) 8)) = true := by decide +kernel
theorem pk1 {a e : Nat} (ha : a < 256) (he : e < 2) : (a / 2 + 128 * e) &&& 85 = pg1 a ∧ pg1 a ≤ a := by
  have h := List.all_eq_true.mp pk_1 a (List.mem_range.mpr ha)
  rw [Bool.and_eq_true] at h
  refine ⟨?_, Nat.le_of_ble_eq_true h.2⟩
  rcases (show e = 0 ∨ e = 1 by omega) with rfl | rfl
  · rfl
  · exact Nat.eq_of_beq_eq_true h.1
theorem pk2 {a e : Nat} (ha : a < 256) (he : e < 4) : (ph1 a / 4 + 64 * e) &&& 51 = (ph1 a / 4 &&& 51) ∧ ph2 a ≤ 68 ∧ ph2 a % 16 ≤ 4 := by
  have h := List.all_eq_true.mp pk_2 a (List.mem_range.mpr ha)
  rw [Bool.and_eq_true, Bool.and_eq_true] at h
  exact ⟨Nat.eq_of_beq_eq_true (List.all_eq_true.mp h.1 e (List.mem_range.mpr he)), Nat.le_of_ble_eq_true h.2.1, Nat.le_of_ble_eq_true h.2.2⟩
theorem pk3 {a e : Nat} (ha : a < 256) (he : e < 5) : (ph2 a + ph2 a / 16 + 16 * e) &&& 15 = ph3 a ∧ ph3 a = cntB (bitB a) 8 ∧ ph3 a ≤ 8 := by
  have h := List.all_eq_true.mp pk_3 a (List.mem_range.mpr ha)
  rw [Bool.and_eq_true, Bool.and_eq_true] at h
  exact ⟨Nat.eq_of_beq_eq_true (List.all_eq_true.mp h.1 e (List.mem_range.mpr he)), Nat.eq_of_beq_eq_true h.2.1, Nat.le_of_ble_eq_true h.2.2⟩
/-- byte by byte -/
theorem pb_1 {a B S M : Nat} (ha : a < 256) (h : (B / 2 &&& M) = S) : ((a + 256 * B) / 2 &&& (85 + 256 * M)) = pg1 a + 256 * S := by
  rw [show (a + 256 * B) / 2 = (a / 2 + 128 * (B % 2)) + 256 * (B / 2) by omega, and_sp (by omega) (by omega), (pk1 ha (Nat.mod_lt _ (by omega))).1, h]
theorem pb_2 {a B S M : Nat} (ha : a < 256) (h : (B &&& M) + (B / 4 &&& M) = S) : ((ph1 a + 256 * B) &&& (51 + 256 * M)) + ((ph1 a + 256 * B) / 4 &&& (51 + 256 * M)) = ph2 a + 256 * S := by
  have hl : ph1 a < 256 := Nat.lt_of_le_of_lt (Nat.sub_le _ _) ha
  rw [show (ph1 a + 256 * B) / 4 = (ph1 a / 4 + 64 * (B % 4)) + 256 * (B / 4) by omega, and_sp hl (by omega), and_sp (by omega) (by omega), (pk2 ha (Nat.mod_lt _ (by omega))).1, ← h]
  unfold ph2
  omega
theorem pb_3 {a B S M : Nat} (ha : a < 256) (hB : B % 16 ≤ 4) (h : (B + B / 16 &&& M) = S) : ((ph2 a + 256 * B) + (ph2 a + 256 * B) / 16 &&& (15 + 256 * M)) = ph3 a + 256 * S := by
  have h2 := (pk2 (e := 0) ha (by omega)).2
  rw [show (ph2 a + 256 * B) + (ph2 a + 256 * B) / 16 = (ph2 a + ph2 a / 16 + 16 * (B % 16)) + 256 * (B + B / 16) by omega, and_sp (by omega) (by omega), (pk3 ha (e := B % 16) (by omega)).1, h]
theorem cntB_split (b : Nat → Bool) (n : Nat) : ∀ k, cntB b (n + k) = cntB b n + cntB (fun i => b (n + i)) k
  | 0 => rfl
  | k + 1 => by
    show cntB b (n + k) + _ = cntB b n + (cntB (fun i => b (n + i)) k + _)
    rw [cntB_split b n k, Nat.add_assoc]
    rfl
theorem cntB_cg {b b' : Nat → Bool} : ∀ n, (∀ i, i < n → b i = b' i) → cntB b n = cntB b' n
  | 0, _ => rfl
  | n + 1, h => by
    rw [cntB_s, cntB_s, cntB_cg n (fun i hi => h i (by omega)), h n (by omega)]
theorem bit_lo {a B i : Nat} (hi : i < 8) : bitB (a + 256 * B) i = bitB a i := by
  unfold bitB
  have : (a + 256 * B) / 2 ^ i % 2 = a / 2 ^ i % 2 := by
    match i, hi with
    | 0, _ => omega
    | 1, _ => omega
    | 2, _ => omega
    | 3, _ => omega
    | 4, _ => omega
    | 5, _ => omega
    | 6, _ => omega
    | 7, _ => omega
  rw [this]
theorem bit_hi {a B i : Nat} (ha : a < 256) : bitB (a + 256 * B) (8 + i) = bitB B i := by
  unfold bitB
  rw [Nat.pow_add, ← Nat.div_div_eq_div_mul, show (a + 256 * B) / 2 ^ 8 = B by omega]
theorem cnt_by {a B n : Nat} (ha : a < 256) : cntB (bitB (a + 256 * B)) (8 + n) = cntB (bitB a) 8 + cntB (bitB B) n := by
  rw [cntB_split, cntB_cg 8 (fun i hi => bit_lo hi), cntB_cg n (fun i _ => bit_hi ha)]
theorem bit_0 {s n i : Nat} (h : s < 2 ^ n) (hi : n ≤ i) : bitB s i = false := by
  unfold bitB
  rw [Nat.div_eq_of_lt (Nat.lt_of_lt_of_le h (Nat.pow_le_pow_right (by omega) hi))]
  rfl
theorem cnt_hi {s n : Nat} (h : s < 2 ^ n) : ∀ k, cntB (bitB s) (n + k) = cntB (bitB s) n
  | 0 => rfl
  | k + 1 => by
    show cntB (bitB s) (n + k) + (match bitB s (n + k) with | true => 1 | false => 0) = _
    rw [bit_0 h (Nat.le_add_right n k), cnt_hi h k]
    rfl
theorem pb_4 {A B C D y : Nat} (hA : A ≤ 8) (hB : B ≤ 8) (hC : C ≤ 8) (hD : D ≤ 8) (hy : y = A + 256 * (B + 256 * (C + 256 * D))) : (y + y / 256 + (y + y / 256) / 65536) % 2 ^ 6 = A + (B + (C + D)) := by
  have h1 : y / 256 = B + 256 * (C + 256 * D) := by omega
  have h2 : (y + y / 256) / 65536 = C + D + 256 * D := by rw [h1]; omega
  rw [h2, h1]
  omega
def T_J6_bitCount_0f7a4 : Tr := fun av h N _ => ∃ s : Nat, av = [mI s] ∧ s < 134217728 ∧ N (some (mI (cntB (bitB s) 32 : Nat))) h
abbrev e_J6_bitCount_0f7a4 : NE := ([], [], ltJ6, [], [], false, 1, (0, 0), [], [], [], true)
theorem s_J6_bitCount_0f7a4 : mm_Spec e_J6_bitCount_0f7a4 kJ6_bitCount_0f7a4 1 T_J6_bitCount_0f7a4 := by
  rintro N X K av h hK ⟨s, rfl, hs, h2⟩
  obtain ⟨a, b, c, d, e, ha, hb, hc, hd⟩ : ∃ a b c d, s = a + 256 * (b + 256 * (c + 256 * d)) ∧ a < 256 ∧ b < 256 ∧ c < 256 ∧ d < 256 := ⟨s % 256, s / 256 % 256, s / 65536 % 256, s / 16777216, by omega, by omega, by omega, by omega, by omega⟩
  have hcn : cntB (bitB s) 32 = ph3 a + (ph3 b + (ph3 c + ph3 d)) := by
    rw [e, show 32 = 8 + (8 + (8 + 8)) from rfl, cnt_by ha, cnt_by hb, cnt_by hc, (pk3 (e := 0) ha (by omega)).2.1, (pk3 (e := 0) hb (by omega)).2.1, (pk3 (e := 0) hc (by omega)).2.1, (pk3 (e := 0) hd (by omega)).2.1]
  have a1 := (pk1 (e := 0) ha (by omega)).2
  have b1 := (pk1 (e := 0) hb (by omega)).2
  have c1 := (pk1 (e := 0) hc (by omega)).2
  have d1 := (pk1 (e := 0) hd (by omega)).2
  have a2 := (pk2 (e := 0) ha (by omega)).2
  have b2 := (pk2 (e := 0) hb (by omega)).2
  have c2 := (pk2 (e := 0) hc (by omega)).2
  have d2 := (pk2 (e := 0) hd (by omega)).2
  have a3 := (pk3 (e := 0) ha (by omega)).2.2
  have b3 := (pk3 (e := 0) hb (by omega)).2.2
  have c3 := (pk3 (e := 0) hc (by omega)).2.2
  have d3 := (pk3 (e := 0) hd (by omega)).2.2
  have e1 : (s / 2 &&& 1431655765) = pg1 a + 256 * (pg1 b + 256 * (pg1 c + 256 * pg1 d)) := by
    rw [e]
    exact pb_1 (M := 5592405) ha (pb_1 (M := 21845) hb (pb_1 (M := 85) hc rfl))
  have x1 : s - (s / 2 &&& 1431655765) = ph1 a + 256 * (ph1 b + 256 * (ph1 c + 256 * ph1 d)) := by
    rw [e1, e]
    unfold ph1
    omega
  obtain ⟨y1, hy1⟩ : ∃ y, y = ph1 a + 256 * (ph1 b + 256 * (ph1 c + 256 * ph1 d)) := ⟨_, rfl⟩
  have e2 : (y1 &&& 858993459) + (y1 / 4 &&& 858993459) = ph2 a + 256 * (ph2 b + 256 * (ph2 c + 256 * ph2 d)) := by
    rw [hy1]
    exact pb_2 (M := 3355443) ha (pb_2 (M := 13107) hb (pb_2 (M := 51) hc rfl))
  obtain ⟨y2, hy2⟩ : ∃ y, y = ph2 a + 256 * (ph2 b + 256 * (ph2 c + 256 * ph2 d)) := ⟨_, rfl⟩
  have e3 : (y2 + y2 / 16 &&& 252645135) = ph3 a + 256 * (ph3 b + 256 * (ph3 c + 256 * ph3 d)) := by
    rw [hy2]
    exact pb_3 (M := 986895) ha (by omega) (pb_3 (M := 3855) hb (by omega) (pb_3 (M := 15) hc (by omega) rfl))
  obtain ⟨y3, hy3⟩ : ∃ y, y = ph3 a + 256 * (ph3 b + 256 * (ph3 c + 256 * ph3 d)) := ⟨_, rfl⟩
  have ly1 : y1 < 2147483648 := by rw [hy1]; unfold ph1; omega
  have ly2 : y2 < 1200000000 := by rw [hy2]; omega
  have ly3 : y3 < 200000000 := by rw [hy3]; omega
  have l1 : (s / 2 &&& 1431655765) ≤ s := Nat.le_trans Nat.and_le_left (Nat.div_le_self _ _)
  refine ⟨rfl, hK [] _ _ _ _ _ _ ?_⟩
  conv => whnf
  rw [ushr_1 (by omega), show (1431655765 : Int) = ((1431655765 : Nat) : Int) from rfl, and_nat (by omega) (by omega), show (s : Int) - ((s / 2 &&& 1431655765 : Nat) : Int) = (y1 : Int) by omega]
  refine And.intro (rng_nat (by omega)) ?_
  conv => whnf
  rw [ushr_2 ly1, show (858993459 : Int) = ((858993459 : Nat) : Int) from rfl, and_nat ly1 (by omega), and_nat (by omega) (by omega), show ((y1 &&& 858993459 : Nat) : Int) + ((y1 / 4 &&& 858993459 : Nat) : Int) = (y2 : Int) by omega]
  refine And.intro (rng_nat (by omega)) ?_
  conv => whnf
  rw [ushr_4 (by omega), show (y2 : Int) + ((y2 / 16 : Nat) : Int) = ((y2 + y2 / 16 : Nat) : Int) by omega]
  refine And.intro (rng_nat (by omega)) ?_
  conv => whnf
  rw [show (252645135 : Int) = ((252645135 : Nat) : Int) from rfl, and_nat (by omega) (by omega), show (y2 + y2 / 16 &&& 252645135) = y3 by omega]
  rw [ushr_8 (by omega), show (y3 : Int) + ((y3 / 256 : Nat) : Int) = ((y3 + y3 / 256 : Nat) : Int) by omega]
  refine And.intro (rng_nat (by omega)) ?_
  conv => whnf
  rw [ushr_16 (by omega), show ((y3 + y3 / 256 : Nat) : Int) + (((y3 + y3 / 256) / 65536 : Nat) : Int) = ((y3 + y3 / 256 + (y3 + y3 / 256) / 65536 : Nat) : Int) by omega]
  refine And.intro (rng_nat (by omega)) ?_
  conv => whnf
  rw [show (63 : Int) = ((63 : Nat) : Int) from rfl, and_nat (by omega) (by omega), show (63 : Nat) = 2 ^ 6 - 1 from rfl, Nat.and_two_pow_sub_one_eq_mod, show (y3 + y3 / 256 + (y3 + y3 / 256) / 65536) % 2 ^ 6 = cntB (bitB s) 32 by rw [hcn]; exact pb_4 a3 b3 c3 d3 hy3]
  exact h2
theorem m_J6_bitCount_0f7a4 (l : Launch) : mm_Met l yJ6_bitCount_0f7a4 cJ6_bitCount_0f7a4 1 (some .int) 0 0 0 T_J6_bitCount_0f7a4 := mm_met (E := e_J6_bitCount_0f7a4) (cd := kJ6_bitCount_0f7a4) s_J6_bitCount_0f7a4 (by decide) kJ6_bitCount_0f7a4_ok (by decide +kernel) (by decide +kernel) (Or.inr (Or.inl ⟨rfl, rfl⟩)) rfl (mm_eok_J6 _) (mm_calls_nil)
def T_X9_mark : Tr := fun av h N X => ∃ (M : List ME) (c : CS) (a : AS) (x : Int), av = [mR 0, mI x] ∧ h = hC (none, M) c ∧ CR a c ∧ mm_rng x ∧ CP M (xMark a x).1 (xMark a x).2 N X
abbrev e_X9_mark : NE := (ftX9, [(303, (2, 1, 6, true, (0, 9), T_X9_needSet)), (306, (1, 0, 0, false, (1, 0), T_J6_bitCount_0f7a4))], ltX9, [], [], false, 1, (1, 6), [], [], [], true)
theorem s_X9_mark : mm_Spec e_X9_mark kX9_mark 3 T_X9_mark := by
  rintro N X K av h hK ⟨M, c, a, x, rfl, rfl, hc, hx, h2⟩
  have hb := fbase hc.1.1
  have h0 := CR_0 hc
  refine ⟨rfl, hK [7] _ _ _ _ _ _ ?_⟩
  refine ⟨M, c, aF a, x, rfl, rfl, h0, hx, fun q => ?_, fun q => ?_⟩
  · obtain ⟨s, rfl⟩ := Int.eq_ofNat_of_zero_le q.1
    have hp : (2 : Int) ^ fQ (aF a) = ((2 ^ fQ (aF a) : Nat) : Int) := by rw [Int.natCast_pow]; rfl
    have hsl : s < 2 ^ fQ (aF a) := by
      have := q.2
      rw [hp] at this
      omega
    have h27 : 2 ^ fQ (aF a) ≤ 2 ^ 27 := Nat.pow_le_pow_right (by omega) hb.1
    have hs : s < 134217728 := by
      have : (2 : Nat) ^ 27 = 134217728 := by decide
      omega
    have ex : xMark a s = (aSetW a (fun x => if x < fQ (aF a) then (ind (bitB s x) : Int) else aW a x), 0, (cntB (bitB s) (fQ (aF a)) : Int)) := if_pos q
    rw [ex] at h2
    have loop : ∀ i : Nat, i ≤ fQ (aF a) → ∀ A : Int → Int, (∀ j : Nat, j < 27 → A (j : Int) = if j < i then (ind (bitB s j) : Int) else aW a j) → K 7 [some (mR 0), some (mI (s : Int)), some (mI (i : Int))] [] (hC (none, M) (kA c 16 A)) 1 6 := by
      refine mm_for (fQ (aF a)) (fun A hA => ?_) (fun i hi ih A hA => ?_)
      · refine hK [7] _ _ _ _ _ _ ?_
        conv => whnf
        rw [show (kA c 16 A).1 3 = (fQ (aF a) : Int) from h0.2.2.2]
        refine And.intro (fun _ => ?_) (fun q => absurd q (by omega))
        refine ⟨s, rfl, hs, ?_⟩
        have h3 := h2.1 rfl (kA c 16 A) (CR_W hc (fun j hj => ?_) hA)
        · rw [show (32 : Nat) = fQ (aF a) + (32 - fQ (aF a)) by omega, cnt_hi hsl]
          exact h3
        · split
          · unfold ind; split <;> omega
          · exact hc.1.2.2.1 j hj
      · refine hK [7] _ _ _ _ _ _ ?_
        conv => whnf
        rw [show (kA c 16 A).1 3 = (fQ (aF a) : Int) from h0.2.2.2]
        refine And.intro (fun q => absurd q (by omega)) (fun _ => ?_)
        conv => whnf
        rw [shr_nat (by omega) (by omega), and1_nat (Nat.lt_of_le_of_lt (Nat.div_le_self _ _) (by omega))]
        refine And.intro (by omega) ?_
        refine And.intro (rng_of (by omega) (by omega)) ?_
        refine ih (mm_upd A (i : Int) ((s / 2 ^ i % 2 : Nat) : Int)) (fun j hj => ?_)
        show mm_upd A (i : Int) _ (j : Int) = _
        unfold mm_upd
        by_cases e : j = i
        · rw [if_pos (by omega), if_pos (by omega), e]
          unfold bitB ind
          rcases Nat.mod_two_eq_zero_or_one (s / 2 ^ i) with w | w <;> rw [w] <;> rfl
        · rw [if_neg (by omega), hA j hj]
          by_cases w : j < i
          · rw [if_pos w, if_pos (by omega)]
          · rw [if_neg w, if_neg (by omega)]
    exact loop 0 (by omega) (c.2.1 16) (fun j hj => by rw [if_neg (by omega)]; exact hc.2.2.2.2.1 j hj)
  · have ex : xMark a x = (a, 1, 0) := if_neg q
    rw [ex] at h2
    exact CP_1 h2 rfl hc
theorem m_X9_mark (l : Launch) (hl : l.stackTraces = false) : mm_MetX l yX9_mark cX9_mark 3 (some .int) 7 1 6 T_X9_mark := mm_metX (E := e_X9_mark) (cd := kX9_mark) s_X9_mark (by decide) kX9_mark_ok (by decide +kernel) (by decide +kernel) (Or.inr (Or.inl ⟨rfl, rfl⟩)) rfl hl (by decide) (by decide +kernel) (mm_eokt (mm_eok_X9 _)) (mm_cz_cons (Or.inr (mm_cxv wi_X9_needSet (tb5 (i := 111) rfl rfl) (m_X9_needSet l hl) (by decide) (by decide) rfl)) (mm_cz_cons (Or.inl (mm_CQ_of (mm_cbs wi_J6_bitCount_0f7a4 (tb5 (i := 116) rfl rfl) (m_J6_bitCount_0f7a4 l) (by decide) (by decide) rfl))) (mm_cz_nil)))
