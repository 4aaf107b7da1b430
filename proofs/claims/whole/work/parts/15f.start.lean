/-! the law's start: the place in which all stands -/
theorem tl1 {i : Nat} {w : Jvm.Cond} (h : tables_1_1[i]? = some w) : w ∈ lw_tbl := List.mem_append_right _ (List.mem_append_left _ (List.mem_of_getElem? h))
theorem tl2 {i : Nat} {w : Jvm.Cond} (h : tables_1_2[i]? = some w) : w ∈ lw_tbl := List.mem_append_right _ (List.mem_append_right _ (List.mem_append_left _ (List.mem_of_getElem? h)))
theorem tl3 {i : Nat} {w : Jvm.Cond} (h : tables_1_3[i]? = some w) : w ∈ lw_tbl := List.mem_append_right _ (List.mem_append_right _ (List.mem_append_right _ (List.mem_append_left _ (List.mem_of_getElem? h))))
theorem tl4 {i : Nat} {w : Jvm.Cond} (h : tables_1_4[i]? = some w) : w ∈ lw_tbl := List.mem_append_right _ (List.mem_append_right _ (List.mem_append_right _ (List.mem_append_right _ (List.mem_append_left _ (List.mem_of_getElem? h)))))
theorem tl5 {i : Nat} {w : Jvm.Cond} (h : tables_1_5[i]? = some w) : w ∈ lw_tbl := List.mem_append_right _ (List.mem_append_right _ (List.mem_append_right _ (List.mem_append_right _ (List.mem_append_right _ (List.mem_append_left _ (List.mem_of_getElem? h))))))
theorem tl6 {i : Nat} {w : Jvm.Cond} (h : tables_1_6[i]? = some w) : w ∈ lw_tbl := List.mem_append_right _ (List.mem_append_right _ (List.mem_append_right _ (List.mem_append_right _ (List.mem_append_right _ (List.mem_append_right _ (List.mem_append_left _ (List.mem_of_getElem? h)))))))
theorem tl7 {i : Nat} {w : Jvm.Cond} (h : tables_1_7[i]? = some w) : w ∈ lw_tbl := List.mem_append_right _ (List.mem_append_right _ (List.mem_append_right _ (List.mem_append_right _ (List.mem_append_right _ (List.mem_append_right _ (List.mem_append_right _ (List.mem_append_left _ (List.mem_of_getElem? h))))))))
theorem tl8 {i : Nat} {w : Jvm.Cond} (h : tables_1_8[i]? = some w) : w ∈ lw_tbl := List.mem_append_right _ (List.mem_append_right _ (List.mem_append_right _ (List.mem_append_right _ (List.mem_append_right _ (List.mem_append_right _ (List.mem_append_right _ (List.mem_append_right _ (List.mem_of_getElem? h))))))))
theorem ac_of {s : State} {args : Array Value} {ty : FieldType} (h : (Jvm.Cond.arrayClass ty).before args s = true) (hr : ∀ c, s.vm.findClass ("[" ++ ty.toString) = some c → va_RA s c ty) : ∃ cA : ClassId, ArrOfT s cA ty ∧ va_RA s cA ty := by
  obtain ⟨c, kA, comp, h1, h2, h3⟩ := Cond.arrayClass_spec h
  exact ⟨c, fun n z => ⟨fun k h => (by cases h), kA, h2, comp, h3⟩, hr c h1⟩
theorem ao_of {s : State} {args : Array Value} {t : FieldType} (h : (Jvm.Cond.arrayOver (.array t)).before args s = true) : ∃ cA : ClassId, ArrOfT s cA (.array t) ∧ va_RA s cA (.array t) := by
  obtain ⟨comp, c, kA, -, h2, h3, h4⟩ := ow_over h
  exact ⟨c, fun n z => ⟨fun k h => (by cases h), kA, h2, comp, h3⟩, h4⟩
theorem str_of {args : Array Value} {s : State} {k : Nat} {tx : String} (h1 : (Jvm.Cond.stringRef RX9 k tx).before args s = true) (h2 : (Jvm.Cond.exactly (.string RX9 k) "java/lang/String").before args s = true) : ∃ a, vk_R RX9 k tx a s := by
  obtain ⟨a, _, _, _, h, _⟩ := Cond.exactly_spec h2
  exact ⟨a, vk_R.of h1 h⟩
theorem pr_of {args : Array Value} {s : State} {tm : Term} {f : Nat → Int32} (harr : (Jvm.Cond.arrayOf tm .int).before args s = true) (hlen : (Term.length tm).eval args s none [] s = some (.int 9)) (hel : ∀ j : Nat, j < 9 → (Term.elem tm (.int (Int32.ofNat j))).eval args s none [] s = some (.int (f j))) : ∃ t : Nat, tm.eval args s none [] s = some (.ref t) ∧ t < s.heap.size ∧ va_X t 9 f s s.heap := by
  obtain ⟨t, ht, cell, hat, hof, hkn, -, h9, hels, -⟩ := va_Tof (A := fun _ => False) (ty := .int) (N := 9) (f := fun j => .int (f j)) (by decide) harr hlen hel (fun _ _ q => q)
  obtain ⟨t2, cell2, ht2, hat2, hshort, -⟩ := Jvm.Lib.length_spec hlen
  cases ht.symm.trans ht2
  cases hat.symm.trans (State.arrayAt?_spec hat2).1
  have hsz := congrArg Int32.toNatClampNeg h9
  rw [show cell.slots.size.toInt32.toNatClampNeg = cell.slots.size from Int32.toNatClampNeg_ofNat_of_lt hshort] at hsz
  exact ⟨t, ht, (Array.getElem?_eq_some_iff.mp hat).1, cell, hat, hof, hkn, hsz, hels⟩
set_option maxRecDepth 100000 in
theorem kn_all {s : State} {b : Nat} (hts0 : ∀ w ∈ lw_tbl, w.before #[Value.ref b] s = true) : ∃ D : va_G, ∀ (c : Nat) (q : vw_C), vwCl[c]? = some q → u_Kn s q.1 q.2.1 q.2.2 (D.1 c) (D.2 c) := by
  have hts : ∀ w ∈ mm_gt, w.before #[Value.ref b] s = true := fun w hw => hts0 w (mm_gt_in hw).1
  obtain ⟨c0, i0, k0⟩ := u_known (C := RX0) (T := TX0) (N := 4) (n := 4) hts clX0 (hts0 _ (tl1 (i := 143) rfl))
  obtain ⟨c1, i1, k1⟩ := u_known (C := RX1) (T := TX1) (N := 13) (n := 13) hts clX1 (hts0 _ (tl1 (i := 30) rfl))
  obtain ⟨c2, i2, k2⟩ := u_known (C := RX2) (T := TX2) (N := 5) (n := 5) hts clX2 (hts0 _ (tl1 (i := 190) rfl))
  obtain ⟨c3, i3, k3⟩ := u_known (C := RX3) (T := TX3) (N := 12) (n := 12) hts clX3 (hts0 _ (tl1 (i := 184) rfl))
  obtain ⟨c4, i4, k4⟩ := u_known (C := RX4) (T := TX4) (N := 8) (n := 8) hts clX4 (hts0 _ (tl1 (i := 87) rfl))
  obtain ⟨c5, i5, k5⟩ := u_known (C := RX5) (T := TX5) (N := 2) (n := 2) hts clX5 (hts0 _ (tl2 (i := 41) rfl))
  obtain ⟨c6, i6, k6⟩ := u_known (C := RX6) (T := TX6) (N := 3) (n := 3) hts clX6 (hts0 _ (tl1 (i := 127) rfl))
  obtain ⟨c7, i7, k7⟩ := u_known (C := RX7) (T := TX7) (N := 5) (n := 5) hts clX7 (hts0 _ (tl1 (i := 162) rfl))
  obtain ⟨c8, i8, k8⟩ := u_known (C := RX8) (T := TX8) (N := 5) (n := 5) hts clX8 (hts0 _ (tl2 (i := 18) rfl))
  obtain ⟨c9, i9, k9⟩ := u_known (C := RX9) (T := TX9) (N := 13) (n := 13) hts clX9 (hts0 _ (tl1 (i := 22) rfl))
  obtain ⟨c10, i10, k10⟩ := u_known (C := RX10) (T := TX10) (N := 53) (n := 53) hts clX10 (hts0 _ (tl5 (i := 176) rfl))
  refine ⟨(fun c => ([c0, c1, c2, c3, c4, c5, c6, c7, c8, c9, c10] : List Nat).getD c 0, fun c => ([i0, i1, i2, i3, i4, i5, i6, i7, i8, i9, i10] : List (Nat → Nat)).getD c (fun _ => 0)), fun c q hq => ?_⟩
  match c, hq with
  | 0, hq => cases hq; exact k0
  | 1, hq => cases hq; exact k1
  | 2, hq => cases hq; exact k2
  | 3, hq => cases hq; exact k3
  | 4, hq => cases hq; exact k4
  | 5, hq => cases hq; exact k5
  | 6, hq => cases hq; exact k6
  | 7, hq => cases hq; exact k7
  | 8, hq => cases hq; exact k8
  | 9, hq => cases hq; exact k9
  | 10, hq => cases hq; exact k10
  | c + 11, hq => cases hq
set_option maxRecDepth 100000 in
set_option maxHeartbeats 16000000 in
theorem lw_start {p : Program} {s : State} {m : MethodId} {meth : Method} {c : Code} {b L : Nat} {xs : Nat → Int32} (C0 : lw_At p s m meth c b L xs) : ∃ g : SG, LwG s b g := by
  obtain ⟨hx, hb, hr, hml, hown, hts0, hX, hbl, hlocks, hgv⟩ := C0
  have hf := flat_of_before _ hgv
  obtain ⟨D, hD⟩ := kn_all hts0
  obtain ⟨a0, ha0⟩ := ac_of (ty := .int) (hts0 _ (tl1 (i := 85) rfl)) (fun _ h => h)
  obtain ⟨a1, ha1⟩ := ac_of (ty := .boolean) (hts0 _ (tl1 (i := 122) rfl)) (fun _ h => h)
  obtain ⟨a2, ha2⟩ := ac_of (ty := .byte) (hts0 _ (tl2 (i := 53) rfl)) (fun _ h => h)
  obtain ⟨a3, ha3⟩ := ac_of (ty := .long) (hts0 _ (tl1 (i := 123) rfl)) (fun _ h => h)
  obtain ⟨a4, ha4⟩ := ao_of (t := .int) (hts0 _ (tl1 (i := 125) rfl))
  obtain ⟨t, ht, htl, htX⟩ := pr_of (tm := (.static RX1 "PRIMES" "[I")) (f := fun j => Int32.ofInt (mm_primes (j : Int))) (hf (.arrayOf (.static RX1 "PRIMES" "[I") .int) (by decide +kernel)) (va_eqt (hf (.eq (.length (.static RX1 "PRIMES" "[I")) (.int 9)) (by decide +kernel))) (fun j hj => by
    match j, hj with
    | 0, _ => exact va_eqt (hf (.eq (.elem (.static RX1 "PRIMES" "[I") (.int 0)) (.int 2)) (by decide +kernel))
    | 1, _ => exact va_eqt (hf (.eq (.elem (.static RX1 "PRIMES" "[I") (.int 1)) (.int 3)) (by decide +kernel))
    | 2, _ => exact va_eqt (hf (.eq (.elem (.static RX1 "PRIMES" "[I") (.int 2)) (.int 5)) (by decide +kernel))
    | 3, _ => exact va_eqt (hf (.eq (.elem (.static RX1 "PRIMES" "[I") (.int 3)) (.int 7)) (by decide +kernel))
    | 4, _ => exact va_eqt (hf (.eq (.elem (.static RX1 "PRIMES" "[I") (.int 4)) (.int 11)) (by decide +kernel))
    | 5, _ => exact va_eqt (hf (.eq (.elem (.static RX1 "PRIMES" "[I") (.int 5)) (.int 13)) (by decide +kernel))
    | 6, _ => exact va_eqt (hf (.eq (.elem (.static RX1 "PRIMES" "[I") (.int 6)) (.int 17)) (by decide +kernel))
    | 7, _ => exact va_eqt (hf (.eq (.elem (.static RX1 "PRIMES" "[I") (.int 7)) (.int 19)) (by decide +kernel))
    | 8, _ => exact va_eqt (hf (.eq (.elem (.static RX1 "PRIMES" "[I") (.int 8)) (.int 23)) (by decide +kernel))
    | j + 9, h => exact absurd h (by omega))
  have hA : ∀ a : Nat, a < s.heap.size → ¬ (s.heap.size ≤ a) := fun a h => by omega
  refine ⟨(D, fun k => ([a0, a1, a2, a3, a4] : List Nat).getD k 0, s.heap.size, fun i => match Nat.beq i 2001 with | true => t | false => b), rfl, rfl, ⟨hD, fun k q hk => ?_⟩, ⟨?_, htX, htl, ?_, ?_, ?_⟩, ?_, ⟨?_, ?_, ?_, ?_⟩, ?_, ?_⟩
  · match k, hk with
    | 0, hk => cases hk; exact ha0
    | 1, hk => cases hk; exact ha1
    | 2, hk => cases hk; exact ha2
    | 3, hk => cases hk; exact ha3
    | 4, hk => cases hk; exact ha4
    | k + 5, hk => cases hk
  · exact va_Zof (hts0 _ (tl2 (i := 195) rfl)) (hts0 _ (tl1 (i := 2) rfl)) ht hA
  · exact vx_Zqof (hts0 _ (tl3 (i := 134) rfl)) (hts0 _ (tl1 (i := 13) rfl)) (hf _ (by decide +kernel)) hA
  · exact vx_Zqof (hts0 _ (tl3 (i := 136) rfl)) (hts0 _ (tl1 (i := 13) rfl)) (hf _ (by decide +kernel)) hA
  · intro q hq
    unfold mm_strs at hq
    rcases List.mem_cons.mp hq with rfl | hq
    · exact str_of (k := 108) (tx := "no such PLACE, or not so many bytes") (hts0 _ (tl3 (i := 147) rfl)) (hf _ (by decide +kernel))
    rcases List.mem_cons.mp hq with rfl | hq
    · exact str_of (k := 165) (tx := "no such count") (hts0 _ (tl4 (i := 98) rfl)) (hf _ (by decide +kernel))
    rcases List.mem_cons.mp hq with rfl | hq
    · exact str_of (k := 349) (tx := "no such ELEMENT") (hts0 _ (tl4 (i := 116) rfl)) (hf _ (by decide +kernel))
    rcases List.mem_cons.mp hq with rfl | hq
    · exact str_of (k := 183) (tx := "no such way, or by 0") (hts0 _ (tl4 (i := 121) rfl)) (hf _ (by decide +kernel))
    rcases List.mem_cons.mp hq with rfl | hq
    · exact str_of (k := 185) (tx := "0 has no LOG") (hts0 _ (tl4 (i := 129) rfl)) (hf _ (by decide +kernel))
    rcases List.mem_cons.mp hq with rfl | hq
    · exact str_of (k := 351) (tx := "no such CHARACTER") (hts0 _ (tl4 (i := 150) rfl)) (hf _ (by decide +kernel))
    rcases List.mem_cons.mp hq with rfl | hq
    · exact str_of (k := 353) (tx := "no such PLACE") (hts0 _ (tl4 (i := 170) rfl)) (hf _ (by decide +kernel))
    rcases List.mem_cons.mp hq with rfl | hq
    · exact str_of (k := 203) (tx := "no such COEFFICIENT") (hts0 _ (tl4 (i := 171) rfl)) (hf _ (by decide +kernel))
    rcases List.mem_cons.mp hq with rfl | hq
    · exact str_of (k := 223) (tx := "no such what") (hts0 _ (tl4 (i := 202) rfl)) (hf _ (by decide +kernel))
    rcases List.mem_cons.mp hq with rfl | hq
    · exact str_of (k := 357) (tx := "not 1 to 30") (hts0 _ (tl4 (i := 225) rfl)) (hf _ (by decide +kernel))
    rcases List.mem_cons.mp hq with rfl | hq
    · exact str_of (k := 274) (tx := "not 1 to 6 ELEMENTS") (hts0 _ (tl5 (i := 16) rfl)) (hf _ (by decide +kernel))
    rcases List.mem_cons.mp hq with rfl | hq
    · exact str_of (k := 281) (tx := "no such s, d or e") (hts0 _ (tl5 (i := 29) rfl)) (hf _ (by decide +kernel))
    rcases List.mem_cons.mp hq with rfl | hq
    · exact str_of (k := 296) (tx := "no such coefficient") (hts0 _ (tl5 (i := 84) rfl)) (hf _ (by decide +kernel))
    rcases List.mem_cons.mp hq with rfl | hq
    · exact str_of (k := 301) (tx := "not -99 to 99") (hts0 _ (tl5 (i := 96) rfl)) (hf _ (by decide +kernel))
    rcases List.mem_cons.mp hq with rfl | hq
    · exact str_of (k := 355) (tx := "no such ELEMENTS") (hts0 _ (tl5 (i := 115) rfl)) (hf _ (by decide +kernel))
    rcases List.mem_cons.mp hq with rfl | hq
    · exact str_of (k := 318) (tx := "no such e, i, j") (hts0 _ (tl5 (i := 142) rfl)) (hf _ (by decide +kernel))
    cases hq
  · intro x hx
    unfold mm_dcl at hx
    rcases List.mem_cons.mp hx with rfl | hx
    · exact va_Nw.of rfl (hts0 _ (tl3 (i := 111) rfl))
    rcases List.mem_cons.mp hx with rfl | hx
    · exact va_Nw.of rfl (hts0 _ (tl3 (i := 113) rfl))
    rcases List.mem_cons.mp hx with rfl | hx
    · exact va_Nw.of rfl (hts0 _ (tl3 (i := 115) rfl))
    cases hx
  · exact va_Nw.of rfl (hts0 _ (tl3 (i := 109) rfl))
  · exact va_Nw.of rfl (hts0 _ (tl4 (i := 91) rfl))
  · exact va_Nc.of (hf (.not (.castable xI xN)) (by decide +kernel))
  · exact va_Nc.of (hf (.not (.castable xN xI)) (by decide +kernel))
  · have h := hts0 _ (tl1 (i := 125) rfl)
    simp only [Cond.before, Cond.holds, Cond.value] at h ⊢
    exact h
  · intro x hx
    unfold mm_nst at hx
    rcases List.mem_cons.mp hx with rfl | hx
    · exact va_Nw.of rfl (hts0 _ (tl1 (i := 31) rfl))
    rcases List.mem_cons.mp hx with rfl | hx
    · exact va_Nw.of rfl (hts0 _ (tl1 (i := 88) rfl))
    rcases List.mem_cons.mp hx with rfl | hx
    · exact va_Nw.of rfl (hts0 _ (tl1 (i := 191) rfl))
    rcases List.mem_cons.mp hx with rfl | hx
    · exact va_Nw.of rfl (hts0 _ (tl2 (i := 42) rfl))
    cases hx
theorem lw_flags {l : Launch} (h : l.flags = flags0) : l.stackTraces = false := by
  unfold Launch.stackTraces
  rw [h]
  decide +kernel
theorem mm_okH0 {g : SG} {H : Heap} (hs : H.size = g.2.2.1) : mm_okH g (some 0, [], [], 0, fun _ _ => 0) H := by
  have hw : mm_wl g (some 0, [], [], 0, fun _ _ => 0) = [] := rfl
  refine ⟨?_, ?_, trivial, trivial, fun r hr => absurd hr (Nat.not_lt_zero r), by omega, fun t ht => by cases ht; omega⟩
  · rw [hw]
    intro k q hq
    cases hq
  · rw [hw]
    exact ⟨fun i j p q hp => (by cases hp), fun k q hq => (by cases hq)⟩
theorem whole_start {p : Program} {e : Env} {s : State} {m : MethodId} {below : List Frame} {meth : Method} {c : Code} (l : Launch) (hflags : l.flags = flags0) {b L : Nat} {xs : Nat → Int32} (hL : L ≤ 3072) (C0 : lw_At p s m meth c b L xs) : W p l e room_1 s m #[Value.ref b] below meth c s.heap [] 0 0 (lw_Z below #[Value.ref b] s) (entryFrame m ([Value.ref b] : List Value).toArray 8) := by
  obtain ⟨g, hG⟩ := lw_start C0
  have hrun := law_run (e := e) (below := below) (lw_flags hflags) hL C0 hG
  have hb : mm_cv g (mR 2002) = Value.ref b := by
    show Value.ref (g.2.2.2 2002) = Value.ref b
    rw [hG.2.1]
  have hml : c.maxLocals = 8 := C0.2.2.2.1
  rw [lg_entry_eq]
  have hls := mm_entry_ok (g := g) (av := [mR 2002]) (nL := 8) (by decide) ⟨trivial, trivial⟩
  rw [show ([mR 2002] : List MV).map (mm_cv g) = [Value.ref b] from by rw [List.map_cons, hb, List.map_nil]] at hls
  exact hrun s.heap [] _ (mm_okH0 hG.1.symm) va_S.rf (by rw [hml]; exact hls) trivial
