def mm_rkret (k : Nat) (ret : Option FieldType) : Prop := (k = 0 ∧ ret = none) ∨ (k = 1 ∧ ret = some .int) ∨ (k = 2 ∧ ret = some .boolean) ∨ (k = 3 ∧ ret = some .long) ∨ (k = 4 ∧ ret = some (.array .int))
def mm_noal (E : NE) (cd : MC) : Bool := cd.all (fun q => match mm_look (ne_tt E) q.1 with
  | some _ => true
  | none => match q.2.1 with
    | .new _ => false
    | .newarray _ => false
    | .multianewarray _ _ => false
    | _ => true)
/-- the tables that a method of class own goes by -/
def mm_Eok (own : String) (nm : String) (lev : Nat) (E : NE) : Prop := mm_Fok own (ne_ft E) ∧ (∀ q ∈ ne_lt E, (∀ z : Int, q.2 = mI z → Jvm.Cond.constant own q.1 (Int32.ofInt z) ∈ mm_gt) ∧ ∀ x : Int64, q.2 = mL x → Jvm.Cond.constantLong own q.1 x ∈ mm_gt) ∧
  (ne_ini E = true → nm = "<init>" ∧ ∀ (i ci k : Nat) (q : vw_C), mm_look (ne_ft E) i = some (ci, k) → vwCl[ci]? = some q → (q.2.1 k).1 = own) ∧
  (∀ (i n : Nat) (f : Int → Int), mm_look (ne_ro E) i = some (n, f) → i = 2001 ∧ n = 9 ∧ f = mm_primes) ∧ (∀ i a : Nat, mm_look (ne_gs E) i = some a → a = 2001 ∧ Jvm.Cond.fieldLink own i RX1 "PRIMES" "[I" ∈ mm_gt) ∧
  (ne_oi E = [] ∨ 1 ≤ lev) ∧ ∀ i ∈ ne_oi E, Jvm.Cond.methodLink own i objectInit ∈ mm_gt
theorem mm_oi1 : Jvm.Cond.instanceMethod objectInit ∈ mm_gt := tb1 (i := 27) rfl rfl
theorem mm_oi2 : Jvm.Cond.code objectInit ⟨#[0xb1]⟩ 1 none ∈ mm_gt := tb1 (i := 28) rfl rfl
theorem mm_primes_rng : ∀ j : Nat, j < 9 → mm_rng (mm_primes j) := by
  intro j hj
  have : ∀ j : Fin 9, -2147483648 ≤ mm_primes (j.val : Int) ∧ mm_primes (j.val : Int) ≤ 2147483647 := by decide +kernel
  exact this ⟨j, hj⟩
theorem mm_lay_len (g : SG) : ∀ (av : List MV), (lg_sl (av.map (mm_cv g))).length = (mm_lay av).length
  | [] => rfl
  | v :: t => by
    have ih := mm_lay_len g t
    simp only [lg_sl, List.map_cons, List.flatMap_cons, List.length_append, mm_lay] at ih ⊢
    cases hv : mm_c1 v with
    | true =>
      have := mm_cat1 (g := g) hv
      rw [if_neg (by omega)]
      simp [ih]
      omega
    | false =>
      have := mm_cat2 (g := g) hv
      rw [if_pos this]
      simp [ih]
      omega
theorem mm_lay_in (g : SG) : ∀ (av : List MV) (k j : Nat) (v : MV), (mm_lay av)[j]? = some (some v) → (k + j, mm_cv g v) ∈ lv_args k (av.map (mm_cv g)) ∧ v ∈ av
  | [], _, _, _, h => by simp [mm_lay] at h
  | u :: t, k, j, v, h => by
    unfold mm_lay at h
    split at h
    · rename_i hu
      have hc := mm_cat1 (g := g) hu
      cases j with
      | zero =>
        simp at h
        subst h
        exact ⟨List.mem_cons_self, List.mem_cons_self⟩
      | succ j =>
        have h2 : (mm_lay t)[j]? = some (some v) := by simpa using h
        obtain ⟨a, b⟩ := mm_lay_in g t (k + 1) j v h2
        refine ⟨?_, List.mem_cons_of_mem _ b⟩
        simp only [List.map_cons, lv_args]
        rw [if_neg (by omega), show k + (j + 1) = k + 1 + j by omega]
        exact List.mem_cons_of_mem _ a
    · rename_i hu
      have hc := mm_cat2 (g := g) hu
      cases j with
      | zero =>
        simp at h
        subst h
        exact ⟨List.mem_cons_self, List.mem_cons_self⟩
      | succ j =>
        cases j with
        | zero => simp at h
        | succ j =>
          have h2 : (mm_lay t)[j]? = some (some v) := by simpa using h
          obtain ⟨a, b⟩ := mm_lay_in g t (k + 2) j v h2
          refine ⟨?_, List.mem_cons_of_mem _ b⟩
          simp only [List.map_cons, lv_args]
          rw [if_pos hc, show k + (j + 1 + 1) = k + 2 + j by omega]
          exact List.mem_cons_of_mem _ a
theorem mm_entry_get {nL j : Nat} {av : List MV} {v : MV} (h : (mm_entry nL av)[j]? = some (some v)) : (mm_lay av)[j]? = some (some v) := by
  unfold mm_entry at h
  by_cases q : j < (mm_lay av).length
  · rw [List.getElem?_append_left q] at h
    exact h
  · rw [List.getElem?_append_right (by omega)] at h
    have := List.eq_of_mem_replicate (List.mem_of_getElem? h)
    cases this
theorem mm_entry_ok {g : SG} {av : List MV} {nL : Nat} (hl : (mm_lay av).length ≤ nL) (hs : mm_okS av) : mm_okL g (mm_entry nL av) ((lg_sl (av.map (mm_cv g)) ++ List.replicate (nL - (lg_sl (av.map (mm_cv g))).length) Slot.unset).toArray) nL := by
  have h1 := lv_entry (av.map (mm_cv g)) (n := nL) (by rw [mm_lay_len]; exact hl)
  refine ⟨⟨h1.1, h1.2.1, fun q hq => ?_⟩, by unfold mm_entry; rw [List.length_append, List.length_replicate]; omega, fun v hv => ?_⟩
  · obtain ⟨j, u, e1, e2, e3⟩ := (mm_lvl_mem g _ 0 q.1 q.2).mp hq
    have h2 := (mm_lay_in g av 0 j u (mm_entry_get e2)).1
    apply h1.2.2
    rw [show q = (0 + j, mm_cv g u) from Prod.ext e1 e3]
    exact h2
  · obtain ⟨j, hj⟩ := List.getElem?_of_mem hv
    exact mm_okS_mem av hs v (mm_lay_in g av 0 j v (mm_entry_get hj)).2
theorem mm_look_none {α : Type} (i : Nat) : mm_look ([] : List (Nat × α)) i = none := rfl
set_option maxHeartbeats 4000000 in
theorem mm_met {l : Launch} {y : MethodName} {cc : ByteArray} {nL lev : Nat} {ret : Option FieldType} {E : NE} {cd : MC} {T : Tr} (hspec : mm_Spec E cd nL T) (hy : plainName y.cls = true) (hdec : ∀ q ∈ cd, decode cc q.1 = .ok (q.2.1, q.2.2)) (hcok : mm_codeok cd = true) (hna : mm_noal E cd = true) (hrk : mm_rkret (ne_rk E) ret) (htt : ne_tt E = []) (hEok : mm_Eok y.cls y.name lev E)
    (hcalls : ∀ (i : Nat) (q : CE), mm_look (ne_ct E) i = some q → mm_CB l y.cls lev i q) : mm_Met l y cc nL ret lev (ne_rc E) (ne_rs E) T := by
  intro g av h N hT
  refine Met.ofW (cc := cc) (maxL := nL) (ret := ret) hy rfl ?_
  intro p e s m args below meth c s₁ B hml hv
  obtain ⟨rfl, hH, hK, hsa, hSd⟩ := hv
  have hx := B.exec
  have hb := B.bytes
  have hr := B.returns
  have hts0 := atoms_spec (ws := mm_ws y cc nL ret) B.pre
  have hts : ∀ w ∈ mm_gt, w.before (av.map (mm_cv g)).toArray s = true := fun w hw => hts0 w (List.mem_cons_of_mem _ hw)
  have hown : s.vm.findClass y.cls = some m.cls := findClass_of_methodNamed B.named
  have hlocks := B.notSynchronized
  have hin := (name_of_methodNamed B.named B.method).1
  have hB : g.2.2.1 ≤ s.heap.size := hH.2.2.2.2.2.1
  obtain ⟨e1, e2, e3, e4, e5, e6, e7⟩ := hEok
  have C : mm_Ctx p (headSpec (mm_ws y cc nL ret) (mm_rm lev (ne_rc E) (ne_rs E))).room s m (av.map (mm_cv g)).toArray meth c cc y.cls g E := by
    refine ⟨hx, hb, hown, hts, hK, hB, fun hi => ⟨hin.trans (e3 hi).1, (e3 hi).2⟩, fun i v hv => ?_, e1, fun i n f hf => ?_, fun i a ha => ?_, ?_, fun i hi => ⟨hts _ (e7 i hi), hts _ mm_oi1, hts _ mm_oi2⟩⟩
    · have := e2 (i, v) (mm_look_mem _ _ _ hv)
      exact ⟨fun z hz => hts _ (this.1 z hz), fun x hx2 => hts _ (this.2 x hx2)⟩
    · obtain ⟨rfl, rfl, rfl⟩ := e4 i n f hf
      exact ⟨by omega, hSd.2.1, Nat.lt_of_lt_of_le hSd.2.2.1 hB, Nat.not_le.mpr hSd.2.2.1, by omega, mm_primes_rng⟩
    · obtain ⟨rfl, hl⟩ := e5 i a ha
      exact ⟨by omega, RX1, "PRIMES", "[I", hSd.1, hts _ hl⟩
    · rcases e6 with h0 | h0
      · exact Or.inl h0
      · refine Or.inr ⟨h0, ?_⟩
        show 20 ≤ 40 * lev
        omega
  have hE : mm_Ends (cd := cd) p l e (headSpec (mm_ws y cc nL ret) (mm_rm lev (ne_rc E) (ne_rs E))).room s m (av.map (mm_cv g)).toArray below meth c (MQ below (mm_Post g N) (av.map (mm_cv g)).toArray s (ne_rc E) (ne_rs E) (mm_A g)) cc g E N (fun _ _ => False) := by
    refine ⟨?_, ?_, ?_, ?_⟩
    · intro pc ins r h' cn sn H locs ls hd hk hN hc1 hc2 hH' hS' hok
      refine W.widen hc1 hc2 ?_
      have hq : ∀ (v : Option Value), v = r.map (mm_cv g) → ∀ t : State, t.heap = H → s.WarmedH t.vm → mm_Post g N (av.map (mm_cv g)).toArray s (.returned v) t := fun v hv t ht _ => ⟨r, h', by rw [hv], hN, hok, by rw [ht]; exact hH', hS'.F ht⟩
      unfold mm_rk at hk
      split at hk
      · obtain ⟨k0, rfl⟩ := hk
        have hret : ret = none := by
          rcases hrk with ⟨-, q⟩ | ⟨q, -⟩ | ⟨q, -⟩ | ⟨q, -⟩ | ⟨q, -⟩
          · exact q
          all_goals (rw [k0] at q; cases q)
        exact W.vret hx hb (hr.trans hret) (hq none rfl) hS'.2.2 hd
      · split at hk
        · rename_i z
          rcases hk with k0 | ⟨k0, hz⟩
          · have hret : ret = some .int := by
              rcases hrk with ⟨q, -⟩ | ⟨-, q⟩ | ⟨q, -⟩ | ⟨q, -⟩ | ⟨q, -⟩
              · rw [k0] at q; cases q
              · exact q
              all_goals (rw [k0] at q; cases q)
            exact W.iret hx hb (hr.trans hret) (hq _ rfl) hS'.2.2 hd
          · have hret : ret = some .boolean := by
              rcases hrk with ⟨q, -⟩ | ⟨q, -⟩ | ⟨-, q⟩ | ⟨q, -⟩ | ⟨q, -⟩
              · rw [k0] at q; cases q
              · rw [k0] at q; cases q
              · exact q
              all_goals (rw [k0] at q; cases q)
            refine W.zret (ty := .boolean) hx hb (hr.trans hret) ?_ (hq _ rfl) hS'.2.2 hd
            rcases hz with rfl | rfl
            · exact (by decide +kernel : narrow .boolean (.int (Int32.ofInt 0)) = .int (Int32.ofInt 0))
            · exact (by decide +kernel : narrow .boolean (.int (Int32.ofInt 1)) = .int (Int32.ofInt 1))
        · cases hk
      · split at hk
        · have hret : ret = some .long := by
            rcases hrk with ⟨q, -⟩ | ⟨q, -⟩ | ⟨q, -⟩ | ⟨-, q⟩ | ⟨q, -⟩
            · rw [hk] at q; cases q
            · rw [hk] at q; cases q
            · rw [hk] at q; cases q
            · exact q
            all_goals (rw [hk] at q; cases q)
          exact W.lret hx hb (hr.trans hret) (hq _ rfl) hS'.2.2 hd
        · cases hk
      · split at hk
        · have hret : ret = some (.array .int) := by
            rcases hrk with ⟨q, -⟩ | ⟨q, -⟩ | ⟨q, -⟩ | ⟨q, -⟩ | ⟨-, q⟩
            · rw [hk] at q; cases q
            · rw [hk] at q; cases q
            · rw [hk] at q; cases q
            · rw [hk] at q; cases q
            · exact q
          exact W.aret hx hb (hr.trans hret) (Or.inr ⟨_, rfl⟩) (Or.inr ⟨_, rfl⟩) (hq _ rfl) hS'.2.2 hd
        · cases hk
      · cases hk
    · intro pc ins i n mc ms th ck T' hd hlk av' rest lv h' cn sn N' hkind hlen hwd hcn hsn hT' hk
      have hcb := hcalls i _ hlk
      have hth : th = false := hcb.1
      subst hth
      exact mm_call_sound C hSd rfl rfl rfl rfl hcb hd hkind hlen hwd hcn hsn hT' hk
    · intro pc ins len hin htt2 hd hl lv st st' h1 h2 cn sn a b ha
      have h3 := List.all_eq_true.mp hna _ hin
      simp only [htt2] at h3
      unfold mm_alloc at ha
      split at ha
      · cases h3
      · cases h3
      · cases h3
      · cases ha
    · intro pc en lv st h' cn sn _ hen _ _ _ hX
      exact hX.elim
  have hcl := mm_cl_sound C hdec hcok hE
  obtain ⟨hl1, hK0⟩ := hspec N (fun _ _ => False) _ av h hcl hT
  rw [lg_entry_eq]
  exact hK0 s.heap [] _ hH va_S.rf (by rw [hml]; exact mm_entry_ok (Nat.le_of_ble_eq_true hl1) hsa) trivial
