/-! calls by rows of their own: Math.min, Math.abs -/
def mm_CQ (l : Launch) (own : String) (lev i : Nat) (q : CE) : Prop := q.2.2.2.1 = false ∧ ∀ {p : Program} {e : Env} {R : Room} {s : State} {m : MethodId} {args : Array Value} {below : List Frame} {meth : Method} {c : Code} {Q : State → Prop} {cc : ByteArray} {g : SG} {E : NE}, mm_Ctx p R s m args meth c cc own g E → mm_Sd g s s.heap → R.frames = lev → R.locals = 40 * lev → R.cells = ne_rc E → R.slots = ne_rs E → ∀ {pc : Nat} {ins : Instr}, decode cc pc = .ok (ins, 3) →
  ∀ {av rest : List MV} {lv : LV} {h : HP} {cn sn : Nat} {N' : Option MV → HP → Prop}, ((ins = .invokevirtual i ∧ mm_rc 0 q.2.2.2.2.1 av h = true) ∨ (ins = .invokestatic i ∧ mm_rc 1 q.2.2.2.2.1 av h = true) ∨ (ins = .invokespecial i ∧ mm_rc 2 q.2.2.2.2.1 av h = true)) → av.length = q.1 → mm_wd rest ≤ 8 → cn + q.2.1 ≤ ne_rc E → sn + q.2.2.1 ≤ ne_rs E → q.2.2.2.2.2 av h N' (fun _ _ => False) →
  (∀ (r : Option MV) (h' : HP), N' r h' → mm_K p l e R s m args below meth c Q g (pc + 3) lv (r.toList ++ rest) h' (cn + q.2.1) (sn + q.2.2.1)) → mm_K p l e R s m args below meth c Q g pc lv (av.reverse ++ rest) h cn sn
theorem mm_CQ_of {l : Launch} {own : String} {lev i : Nat} {q : CE} (h : mm_CB l own lev i q) : mm_CQ l own lev i q := by
  obtain ⟨n, mc, ms, th, ck, T⟩ := q
  have hth : th = false := h.1
  subst hth
  exact ⟨rfl, fun C hSd h1 h2 h3 h4 _ _ hd _ _ _ _ _ _ _ hk hl hw hc hs hT hkk => mm_call_sound C hSd h1 h2 h3 h4 h hd hk hl hw hc hs hT hkk⟩
theorem mm_cq_nil {l : Launch} {own : String} {lev : Nat} : ∀ (i : Nat) (q : CE), mm_look [] i = some q → mm_CQ l own lev i q := fun _ _ h => nomatch h
theorem mm_cq_cons {l : Launch} {own : String} {lev k : Nat} {v : CE} {t : List (Nat × CE)} (h1 : mm_CQ l own lev k v) (h2 : ∀ (i : Nat) (q : CE), mm_look t i = some q → mm_CQ l own lev i q) : ∀ (i : Nat) (q : CE), mm_look ((k, v) :: t) i = some q → mm_CQ l own lev i q := by
  intro i q h
  unfold mm_look at h
  split at h
  · rename_i hk; cases h; rw [← Nat.eq_of_beq_eq_true hk]; exact h1
  · exact h2 i q h
theorem i32_of {z : Int} (h : mm_rng z) : (Int32.ofInt z).toInt = z := Int32.toInt_ofInt_of_le (by unfold mm_rng at h; omega) (by unfold mm_rng at h; omega)
def T_J9_min_7cf53 : Tr := fun av h N _ => ∃ x y : Int, av = [mI x, mI y] ∧ N (some (mI (if y < x then y else x))) h
def T_J9_abs_0f7a4 : Tr := fun av h N _ => ∃ x : Int, av = [mI x] ∧ -2147483647 ≤ x ∧ N (some (mI (if 0 ≤ x then x else -x))) h
def T_J9_abs_067f4 : Tr := fun av h N _ => ∃ x : Int64, av = [mL x] ∧ N (some (mL (if 0 < x then x else -x))) h
theorem mm_CQ_min {l : Launch} {own : String} {lev i : Nat} (hY : mm_Ys Lib.Math.min.name Lib.Math.min.code 2 (some .int) 2) (hl : Jvm.Cond.methodLink own i Lib.Math.min.name ∈ mm_gt) (h1 : 1 ≤ lev) : mm_CQ l own lev i (2, 0, 0, false, (1, 0), T_J9_min_7cf53) := by
  refine ⟨rfl, ?_⟩
  intro p e R s m args below meth c Q cc g E C hSd hRf hRl hRc hRs pc ins hd av rest lv h cn sn N' hkind hlen hwd hcn hsn hT hk
  obtain ⟨hx, hb, hown, hts, -⟩ := C
  rcases hkind with ⟨-, hr⟩ | ⟨rfl, hr⟩ | ⟨-, hr⟩
  · cases hr
  · obtain ⟨x, y, rfl, hN⟩ := hT
    intro H locs ls hH hS hL hs
    have ox : mm_rng x := mm_okS_mem _ hs (mI x) (by simp)
    have oy : mm_rng y := mm_okS_mem _ hs (mI y) (by simp)
    have hsr : mm_okS rest := mm_okS_of _ (fun v hv => mm_okS_mem _ hs v (List.mem_append_right _ hv))
    have hsum : ((rest.map (mm_cv g)).map fun v => v.category).sum ≤ 8 := by rw [mm_wdle]; exact hwd
    have k2 := hk _ _ hN H locs ls hH hS hL ⟨by show mm_rng _; split <;> assumption, hsr⟩
    have e1 : (if Int32.ofInt y < Int32.ofInt x then Int32.ofInt y else Int32.ofInt x) = Int32.ofInt (if y < x then y else x) := by
      by_cases q : y < x
      · rw [if_pos q, if_pos (by rw [Int32.lt_iff_toInt_lt, i32_of ox, i32_of oy]; exact q)]
      · rw [if_neg q, if_neg (by rw [Int32.lt_iff_toInt_lt, i32_of ox, i32_of oy]; exact q)]
    refine va_mmin (rest := rest.map (mm_cv g)) (x := Int32.ofInt x) (y := Int32.ofInt y) hx hb hL.1.1.symm hown (hts _ hl) (hts _ hY.2.2.2) (hts _ hY.2.1) (hts _ hY.1) (by omega) (by omega) (by have : cn + 0 ≤ ne_rc E := hcn; omega) (by have : sn + 0 ≤ ne_rs E := hsn; omega) hd ?_
    rw [e1]
    exact k2
  · cases hr
theorem mm_CQ_abs {l : Launch} {own : String} {lev i : Nat} (hY : mm_Ys Lib.Math.abs.name Lib.Math.abs.code 1 (some .int) 1) (hl : Jvm.Cond.methodLink own i Lib.Math.abs.name ∈ mm_gt) (h1 : 1 ≤ lev) : mm_CQ l own lev i (1, 0, 0, false, (1, 0), T_J9_abs_0f7a4) := by
  refine ⟨rfl, ?_⟩
  intro p e R s m args below meth c Q cc g E C hSd hRf hRl hRc hRs pc ins hd av rest lv h cn sn N' hkind hlen hwd hcn hsn hT hk
  obtain ⟨hx, hb, hown, hts, -⟩ := C
  rcases hkind with ⟨-, hr⟩ | ⟨rfl, hr⟩ | ⟨-, hr⟩
  · cases hr
  · obtain ⟨x, rfl, hlo, hN⟩ := hT
    intro H locs ls hH hS hL hs
    have ox : mm_rng x := mm_okS_mem _ hs (mI x) (by simp)
    have hsr : mm_okS rest := mm_okS_of _ (fun v hv => mm_okS_mem _ hs v (List.mem_append_right _ hv))
    have hsum : ((rest.map (mm_cv g)).map fun v => v.category).sum ≤ 8 := by rw [mm_wdle]; exact hwd
    have k2 := hk _ _ hN H locs ls hH hS hL ⟨by show mm_rng _; unfold mm_rng at *; split <;> omega, hsr⟩
    have h0 : ((0 : Int32)).toInt = 0 := by decide
    have e1 : (if 0 ≤ Int32.ofInt x then Int32.ofInt x else 0 - Int32.ofInt x) = Int32.ofInt (if 0 ≤ x then x else -x) := by
      by_cases q : 0 ≤ x
      · rw [if_pos q, if_pos (by rw [Int32.le_iff_toInt_le, i32_of ox, h0]; exact q)]
      · rw [if_neg q, if_neg (by rw [Int32.le_iff_toInt_le, i32_of ox, h0]; exact q), Int32.ofInt_neg]
        simp
    refine va_mabs (rest := rest.map (mm_cv g)) (x := Int32.ofInt x) hx hb hL.1.1.symm hown (hts _ hl) (hts _ hY.2.2.2) (hts _ hY.2.1) (hts _ hY.1) (by omega) (by omega) (by have : cn + 0 ≤ ne_rc E := hcn; omega) (by have : sn + 0 ≤ ne_rs E := hsn; omega) hd ?_
    rw [e1]
    exact k2
  · cases hr
theorem mm_CQ_absL {l : Launch} {own : String} {lev i : Nat} (hY : mm_Ys Lib.MathLoose.abs_long.x Lib.MathLoose.abs_long.code 2 (some .long) 1) (hl : Jvm.Cond.methodLink own i Lib.MathLoose.abs_long.x ∈ mm_gt) (h1 : 1 ≤ lev) : mm_CQ l own lev i (1, 0, 0, false, (1, 0), T_J9_abs_067f4) := by
  refine ⟨rfl, ?_⟩
  intro p e R s m args below meth c Q cc g E C hSd hRf hRl hRc hRs pc ins hd av rest lv h cn sn N' hkind hlen hwd hcn hsn hT hk
  obtain ⟨hx, hb, hown, hts, -⟩ := C
  rcases hkind with ⟨-, hr⟩ | ⟨rfl, hr⟩ | ⟨-, hr⟩
  · cases hr
  · obtain ⟨x, rfl, hN⟩ := hT
    intro H locs ls hH hS hL hs
    have hsr : mm_okS rest := mm_okS_of _ (fun v hv => mm_okS_mem _ hs v (List.mem_append_right _ hv))
    have hsum : ((rest.map (mm_cv g)).map fun v => v.category).sum ≤ 8 := by rw [mm_wdle]; exact hwd
    have k2 := hk _ _ hN H locs ls hH hS hL ⟨trivial, hsr⟩
    exact va_mabs_long (rest := rest.map (mm_cv g)) (x := x) hx hb hL.1.1.symm hown (hts _ hl) (hts _ hY.2.2.2) (hts _ hY.2.1) (hts _ hY.1) (by omega) (by omega) (by have : cn + 0 ≤ ne_rc E := hcn; omega) (by have : sn + 0 ≤ ne_rs E := hsn; omega) hd k2
  · cases hr
set_option maxHeartbeats 4000000 in
theorem mm_met3 {l : Launch} {y : MethodName} {cc : ByteArray} {nL lev : Nat} {ret : Option FieldType} {E : NE} {cd : MC} {T : Tr} (hspec : mm_Spec E cd nL T) (hy : plainName y.cls = true) (hdec : ∀ q ∈ cd, decode cc q.1 = .ok (q.2.1, q.2.2)) (hcok : mm_codeok cd = true) (hna : mm_noal E cd = true) (hrk : mm_rkret (ne_rk E) ret) (htt : ne_tt E = []) (hEok : mm_Eok y.cls y.name lev E)
    (hcalls : ∀ (i : Nat) (q : CE), mm_look (ne_ct E) i = some q → mm_CQ l y.cls lev i q) : mm_Met l y cc nL ret lev (ne_rc E) (ne_rs E) T := by
  intro g av h N hT
  refine Met.ofW (cc := cc) (maxL := nL) (ret := ret) hy rfl ?_
  intro p e s m args below meth c s₁ B hml hv
  obtain ⟨rfl, hH, hK, hsa, hSd⟩ := hv
  have hx := B.exec
  have hb := B.bytes
  have hr := B.returns
  have hts0 := atoms_spec (ws := mm_ws y cc nL ret) B.pre
  have hts : ∀ w ∈ mm_gt, w.before (av.map (mm_cv g)).toArray s = true := fun w hw => hts0 w (List.mem_cons_of_mem _ hw)
  have hown : s.vm.findClass y.cls = some m.cls := findClass_of_methodNamed B.named
  have hlocks := B.notSynchronized
  have hin := (name_of_methodNamed B.named B.method).1
  have hB : g.2.2.1 ≤ s.heap.size := hH.2.2.2.2.2.1
  obtain ⟨e1, e2, e3, e4, e5, e6, e7⟩ := hEok
  have C : mm_Ctx p (headSpec (mm_ws y cc nL ret) (mm_rm lev (ne_rc E) (ne_rs E))).room s m (av.map (mm_cv g)).toArray meth c cc y.cls g E := by
    refine ⟨hx, hb, hown, hts, hK, hB, fun hi => ⟨hin.trans (e3 hi).1, (e3 hi).2⟩, fun i v hv => ?_, e1, fun i n f hf => ?_, fun i a ha => ?_, ?_, fun i hi => ⟨hts _ (e7 i hi), hts _ mm_oi1, hts _ mm_oi2⟩⟩
    · have := e2 (i, v) (mm_look_mem _ _ _ hv)
      exact ⟨fun z hz => hts _ (this.1 z hz), fun x hx2 => hts _ (this.2 x hx2)⟩
    · obtain ⟨rfl, rfl, rfl⟩ := e4 i n f hf
      exact ⟨by omega, hSd.2.1, Nat.lt_of_lt_of_le hSd.2.2.1 hB, Nat.not_le.mpr hSd.2.2.1, by omega, mm_primes_rng⟩
    · obtain ⟨rfl, hl⟩ := e5 i a ha
      exact ⟨by omega, RX1, "PRIMES", "[I", hSd.1, hts _ hl⟩
    · rcases e6 with h0 | h0
      · exact Or.inl h0
      · refine Or.inr ⟨h0, ?_⟩
        show 20 ≤ 40 * lev
        omega
  have hE : mm_Ends (cd := cd) p l e (headSpec (mm_ws y cc nL ret) (mm_rm lev (ne_rc E) (ne_rs E))).room s m (av.map (mm_cv g)).toArray below meth c (MQ below (mm_Post g N) (av.map (mm_cv g)).toArray s (ne_rc E) (ne_rs E) (mm_A g)) cc g E N (fun _ _ => False) := by
    refine ⟨?_, ?_, ?_, ?_⟩
    · intro pc ins r h' cn sn H locs ls hd hk hN hc1 hc2 hH' hS' hok
      refine W.widen hc1 hc2 ?_
      have hq : ∀ (v : Option Value), v = r.map (mm_cv g) → ∀ t : State, t.heap = H → s.WarmedH t.vm → mm_Post g N (av.map (mm_cv g)).toArray s (.returned v) t := fun v hv t ht _ => ⟨r, h', by rw [hv], hN, hok, by rw [ht]; exact hH', hS'.F ht⟩
      unfold mm_rk at hk
      split at hk
      · obtain ⟨k0, rfl⟩ := hk
        have hret : ret = none := by
          rcases hrk with ⟨-, q⟩ | ⟨q, -⟩ | ⟨q, -⟩ | ⟨q, -⟩ | ⟨q, -⟩
          · exact q
          all_goals (rw [k0] at q; cases q)
        exact W.vret hx hb (hr.trans hret) (hq none rfl) hS'.2.2 hd
      · split at hk
        · rename_i z
          rcases hk with k0 | ⟨k0, hz⟩
          · have hret : ret = some .int := by
              rcases hrk with ⟨q, -⟩ | ⟨-, q⟩ | ⟨q, -⟩ | ⟨q, -⟩ | ⟨q, -⟩
              · rw [k0] at q; cases q
              · exact q
              all_goals (rw [k0] at q; cases q)
            exact W.iret hx hb (hr.trans hret) (hq _ rfl) hS'.2.2 hd
          · have hret : ret = some .boolean := by
              rcases hrk with ⟨q, -⟩ | ⟨q, -⟩ | ⟨-, q⟩ | ⟨q, -⟩ | ⟨q, -⟩
              · rw [k0] at q; cases q
              · rw [k0] at q; cases q
              · exact q
              all_goals (rw [k0] at q; cases q)
            refine W.zret (ty := .boolean) hx hb (hr.trans hret) ?_ (hq _ rfl) hS'.2.2 hd
            rcases hz with rfl | rfl
            · exact (by decide +kernel : narrow .boolean (.int (Int32.ofInt 0)) = .int (Int32.ofInt 0))
            · exact (by decide +kernel : narrow .boolean (.int (Int32.ofInt 1)) = .int (Int32.ofInt 1))
        · cases hk
      · split at hk
        · have hret : ret = some .long := by
            rcases hrk with ⟨q, -⟩ | ⟨q, -⟩ | ⟨q, -⟩ | ⟨-, q⟩ | ⟨q, -⟩
            · rw [hk] at q; cases q
            · rw [hk] at q; cases q
            · rw [hk] at q; cases q
            · exact q
            all_goals (rw [hk] at q; cases q)
          exact W.lret hx hb (hr.trans hret) (hq _ rfl) hS'.2.2 hd
        · cases hk
      · split at hk
        · have hret : ret = some (.array .int) := by
            rcases hrk with ⟨q, -⟩ | ⟨q, -⟩ | ⟨q, -⟩ | ⟨q, -⟩ | ⟨-, q⟩
            · rw [hk] at q; cases q
            · rw [hk] at q; cases q
            · rw [hk] at q; cases q
            · rw [hk] at q; cases q
            · exact q
          exact W.aret hx hb (hr.trans hret) (Or.inr ⟨_, rfl⟩) (Or.inr ⟨_, rfl⟩) (hq _ rfl) hS'.2.2 hd
        · cases hk
      · cases hk
    · intro pc ins i n mc ms th ck T' hd hlk av' rest lv h' cn sn N' hkind hlen hwd hcn hsn hT' hk
      have hcb := hcalls i _ hlk
      have hth : th = false := hcb.1
      subst hth
      exact hcb.2 C hSd rfl rfl rfl rfl hd hkind hlen hwd hcn hsn hT' hk
    · intro pc ins len hin htt2 hd hl lv st st' h1 h2 cn sn a b ha
      have h3 := List.all_eq_true.mp hna _ hin
      simp only [htt2] at h3
      unfold mm_alloc at ha
      split at ha
      · cases h3
      · cases h3
      · cases h3
      · cases ha
    · intro pc en lv st h' cn sn _ hen _ _ _ hX
      exact hX.elim
  have hcl := mm_cl_sound C hdec hcok hE
  obtain ⟨hl1, hK0⟩ := hspec N (fun _ _ => False) _ av h hcl hT
  rw [lg_entry_eq]
  exact hK0 s.heap [] _ hH va_S.rf (by rw [hml]; exact mm_entry_ok (Nat.le_of_ble_eq_true hl1) hsa) trivial
