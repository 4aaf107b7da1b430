/-! the contract of a method that may throw -/
set_option maxHeartbeats 4000000 in
theorem mm_metX {l : Launch} {y : MethodName} {cc : ByteArray} {nL lev : Nat} {ret : Option FieldType} {E : NE} {cd : MC} {T : Tr} (hspec : mm_Spec E cd nL T) (hy : plainName y.cls = true) (hdec : ∀ q ∈ cd, decode cc q.1 = .ok (q.2.1, q.2.2)) (hcok : mm_codeok cd = true) (hna : mm_noal E cd = true) (hrk : mm_rkret (ne_rk E) ret) (hown9 : y.cls = RX9) (hl : l.stackTraces = false) (hlev : 6 ≤ lev) (htx : ∀ q ∈ ne_tt E, mm_txok cd q = true) (hEok : mm_Eok y.cls y.name lev E)
    (hcalls : ∀ (i : Nat) (q : CE), mm_look (ne_ct E) i = some q → mm_CZ l y.cls lev i q) : mm_MetX l y cc nL ret lev (ne_rc E) (ne_rs E) T := by
  intro g av h N X hT
  refine vx_ofW (cc := cc) (maxL := nL) (ret := ret) hy rfl ?_
  intro p e s m args below meth c s₁ B hml hex hv
  obtain ⟨⟨rfl, hH, hK, hsa, hSd⟩, hDc⟩ := hv
  have hx := B.exec
  have hb := B.bytes
  have hr := B.returns
  have hts0 := atoms_spec (ws := mm_ws y cc nL ret) B.pre
  have hts : ∀ w ∈ mm_gt, w.before (av.map (mm_cv g)).toArray s = true := fun w hw => hts0 w (List.mem_cons_of_mem _ hw)
  have hown : s.vm.findClass y.cls = some m.cls := findClass_of_methodNamed B.named
  have hlocks := B.notSynchronized
  have hin := (name_of_methodNamed B.named B.method).1
  have hB : g.2.2.1 ≤ s.heap.size := hH.2.2.2.2.2.1
  obtain ⟨e1, e2, e3, e4, e5, e6, e7⟩ := hEok
  have C : mm_Ctx p (headSpec (mm_ws y cc nL ret) (mm_rm lev (ne_rc E) (ne_rs E))).room s m (av.map (mm_cv g)).toArray meth c cc y.cls g E := by
    refine ⟨hx, hb, hown, hts, hK, hB, fun hi => ⟨hin.trans (e3 hi).1, (e3 hi).2⟩, fun i v hv => ?_, e1, fun i n f hf => ?_, fun i a ha => ?_, ?_, fun i hi => ⟨hts _ (e7 i hi), hts _ mm_oi1, hts _ mm_oi2⟩⟩
    · have := e2 (i, v) (mm_look_mem _ _ _ hv)
      exact ⟨fun z hz => hts _ (this.1 z hz), fun x hx2 => hts _ (this.2 x hx2)⟩
    · obtain ⟨rfl, rfl, rfl⟩ := e4 i n f hf
      exact ⟨by omega, hSd.2.1, Nat.lt_of_lt_of_le hSd.2.2.1 hB, Nat.not_le.mpr hSd.2.2.1, by omega, mm_primes_rng⟩
    · obtain ⟨rfl, hl⟩ := e5 i a ha
      exact ⟨by omega, RX1, "PRIMES", "[I", hSd.1, hts _ hl⟩
    · rcases e6 with h0 | h0
      · exact Or.inl h0
      · refine Or.inr ⟨h0, ?_⟩
        show 20 ≤ 40 * lev
        omega
  have hE : mm_Ends (cd := cd) p l e (headSpec (mm_ws y cc nL ret) (mm_rm lev (ne_rc E) (ne_rs E))).room s m (av.map (mm_cv g)).toArray below meth c (vx_MQ below (mm_Post g N) (mm_XC g X) (av.map (mm_cv g)).toArray s (ne_rc E) (ne_rs E) (mm_A g)) cc g E N X := by
    refine ⟨?_, ?_, ?_, ?_⟩
    · intro pc ins r h' cn sn H locs ls hd hk hN hc1 hc2 hH' hS' hok
      refine vx_ret ?_
      refine W.widen hc1 hc2 ?_
      have hq : ∀ (v : Option Value), v = r.map (mm_cv g) → ∀ t : State, t.heap = H → s.WarmedH t.vm → mm_Post g N (av.map (mm_cv g)).toArray s (.returned v) t := fun v hv t ht _ => ⟨r, h', by rw [hv], hN, hok, by rw [ht]; exact hH', hS'.F ht⟩
      unfold mm_rk at hk
      split at hk
      · obtain ⟨k0, rfl⟩ := hk
        have hret : ret = none := by
          rcases hrk with ⟨-, q⟩ | ⟨q, -⟩ | ⟨q, -⟩ | ⟨q, -⟩ | ⟨q, -⟩
          · exact q
          all_goals (rw [k0] at q; cases q)
        exact W.vret hx hb (hr.trans hret) (hq none rfl) hS'.2.2 hd
      · split at hk
        · rename_i z
          rcases hk with k0 | ⟨k0, hz⟩
          · have hret : ret = some .int := by
              rcases hrk with ⟨q, -⟩ | ⟨-, q⟩ | ⟨q, -⟩ | ⟨q, -⟩ | ⟨q, -⟩
              · rw [k0] at q; cases q
              · exact q
              all_goals (rw [k0] at q; cases q)
            exact W.iret hx hb (hr.trans hret) (hq _ rfl) hS'.2.2 hd
          · have hret : ret = some .boolean := by
              rcases hrk with ⟨q, -⟩ | ⟨q, -⟩ | ⟨-, q⟩ | ⟨q, -⟩ | ⟨q, -⟩
              · rw [k0] at q; cases q
              · rw [k0] at q; cases q
              · exact q
              all_goals (rw [k0] at q; cases q)
            refine W.zret (ty := .boolean) hx hb (hr.trans hret) ?_ (hq _ rfl) hS'.2.2 hd
            rcases hz with rfl | rfl
            · exact (by decide +kernel : narrow .boolean (.int (Int32.ofInt 0)) = .int (Int32.ofInt 0))
            · exact (by decide +kernel : narrow .boolean (.int (Int32.ofInt 1)) = .int (Int32.ofInt 1))
        · cases hk
      · split at hk
        · have hret : ret = some .long := by
            rcases hrk with ⟨q, -⟩ | ⟨q, -⟩ | ⟨q, -⟩ | ⟨-, q⟩ | ⟨q, -⟩
            · rw [hk] at q; cases q
            · rw [hk] at q; cases q
            · rw [hk] at q; cases q
            · exact q
            all_goals (rw [hk] at q; cases q)
          exact W.lret hx hb (hr.trans hret) (hq _ rfl) hS'.2.2 hd
        · cases hk
      · split at hk
        · have hret : ret = some (.array .int) := by
            rcases hrk with ⟨q, -⟩ | ⟨q, -⟩ | ⟨q, -⟩ | ⟨q, -⟩ | ⟨-, q⟩
            · rw [hk] at q; cases q
            · rw [hk] at q; cases q
            · rw [hk] at q; cases q
            · rw [hk] at q; cases q
            · exact q
          exact W.aret hx hb (hr.trans hret) (Or.inr ⟨_, rfl⟩) (Or.inr ⟨_, rfl⟩) (hq _ rfl) hS'.2.2 hd
        · cases hk
      · cases hk
    · intro pc ins i n mc ms th ck T' hd hlk av' rest lv h' cn sn N' hkind hlen hwd hcn hsn hT' hk
      rcases hcalls i _ hlk with hcb | hcb
      · have hth : th = false := hcb.1
        subst hth
        exact hcb.2 C hSd rfl rfl rfl rfl hd hkind hlen hwd hcn hsn hT' hk
      · have hth : th = true := hcb.1
        subst hth
        exact mm_callX_sound C hSd hDc rfl rfl rfl rfl hlocks hex hcb hd hkind hlen hwd hcn hsn hT' hk
    · intro pc ins len hin htt2 hd hl lv st st' h1 h2 cn sn a b ha
      have h3 := List.all_eq_true.mp hna _ hin
      simp only [htt2] at h3
      unfold mm_alloc at ha
      split at ha
      · cases h3
      · cases h3
      · cases h3
      · cases ha
    · intro pc en lv st h' cn sn _ hen hw8 hc1 hc2 hX
      obtain ⟨ik, ic, is, k1, k2, d0, d3, d4⟩ := mm_txok_sound hdec (htx (pc, en) (mm_look_mem _ _ _ hen))
      rw [hown9] at C
      exact mm_throw_sound hl C hSd hDc (show 6 ≤ lev from hlev) (by show 90 ≤ 40 * lev; omega) rfl rfl hlocks hex k1 k2 d0 d3 d4 hw8 hc1 hc2 hX
  have hcl := mm_cl_sound C hdec hcok hE
  obtain ⟨hl1, hK0⟩ := hspec N X _ av h hcl hT
  rw [lg_entry_eq]
  exact hK0 s.heap [] _ hH va_S.rf (by rw [hml]; exact mm_entry_ok (Nat.le_of_ble_eq_true hl1) hsa) trivial
theorem mm_cxv {l : Launch} {own : String} {lev i n mc ms ci : Nat} {T : Tr} {y : MethodName} {cc : ByteArray} {nL : Nat} {ret : Option FieldType} {lev' k : Nat} (hY : mm_Yv y cc nL ret k) (hl : Jvm.Cond.methodLink own i y ∈ mm_gt) (hM : mm_MetX l y cc nL ret lev' mc ms T) (h1 : lev' + 1 ≤ lev) (h2 : 8 + (nL + 11) + 40 * lev' ≤ 40 * lev) (hc : (vwCl[ci]?).map (·.1) = some y.cls) (hn : n = k + 1 := by rfl) : mm_CX l own lev i (n, mc, ms, true, (0, ci), T) := by
  obtain ⟨a, b, d, e, f⟩ := hY
  refine ⟨rfl, y, cc, nL, ret, lev', k, hM, h1, h2, a, b, d, hl, rfl, hn, ?_, e, f⟩
  cases hq : vwCl[ci]? with
  | none => rw [hq] at hc; cases hc
  | some r => rw [hq] at hc; exact ⟨r, rfl, Option.some.inj hc⟩
theorem mm_eokt {own nm : String} {lev : Nat} {a : List (Nat × Nat × Nat)} {b : List (Nat × CE)} {c : List (Nat × MV)} {d : List (Nat × Nat × List MV)} {e : List Nat} {f : Bool} {k : Nat} {rr : Nat × Nat} {i : List (Nat × Nat × (Int → Int))} {j : List (Nat × Nat)} {tt : List (Nat × String)} {rg : Bool} (h : mm_Eok own nm lev (a, b, c, d, e, f, k, rr, i, j, [], rg)) : mm_Eok own nm lev (a, b, c, d, e, f, k, rr, i, j, tt, rg) := h
