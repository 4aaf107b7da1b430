/-! constructors: contracts that make -/
/-- nest mates' constructors: words that travel in the precondition -/
def mm_nst : List (String × Nat × MethodName) := [(RX9, 9, yX1_init), (RX9, 18, yX4_init), (RX3, 11, yX2_init), (RX9, 78, yX5_init)]
def mm_AO (U : State) : Prop := (Jvm.Cond.arrayOver (.array .int)).before #[] U = true ∧ ∀ x ∈ mm_nst, va_Nw (.methodLinkNest x.1 x.2.1 x.2.2 RX9) U
theorem mm_AO_warm {s U : State} (hW : s.WarmedH U.vm) (h : mm_AO s) : mm_AO U := ⟨over_moved hW.alike h.1, fun x hx => va_Nw.warmM hW (h.2 x hx)⟩
def mm_PreI (g : SG) (av : List MV) (h : HP) : Array Value → State → Prop := fun v U => mm_Pre g av h v U ∧ mm_AO U
def mm_MetI (l : Launch) (y : MethodName) (cc : ByteArray) (nL : Nat) (lev mc ms : Nat) (T : Tr) : Prop :=
  ∀ (g : SG) (av : List MV) (h : HP) (N : Option MV → HP → Prop), T av h N (fun _ _ => False) → Met l y (mm_ws y cc nL none) (mm_rm lev mc ms) (mm_PreI g av h) (mm_Post g N) mc ms (mm_A g)
theorem mm_blindI {g : SG} {av : List MV} {h : HP} : FrameBlind (mm_PreI g av h) := fun a U g2 mk q => ⟨mm_blind a U g2 mk q.1, over_moved (u := U) (Vm.Alike.refl U.vm) q.2.1, fun x hx => va_Nw.same (u := U) rfl rfl (q.2.2 x hx)⟩
/-- a constructor is called -/
def mm_CI (l : Launch) (own : String) (lev i : Nat) (q : CE) : Prop := q.2.2.2.1 = false ∧ ∃ (y : MethodName) (cc : ByteArray) (nL : Nat) (lev' k : Nat),
  mm_MetI l y cc nL lev' q.2.1 q.2.2.1 q.2.2.2.2.2 ∧ lev' + 1 ≤ lev ∧ 8 + (nL + 11) + 40 * lev' ≤ 40 * lev ∧ Jvm.Cond.code y cc nL none ∈ mm_gt ∧ Jvm.Cond.initialized y.cls ∈ mm_gt ∧ (y.cls ≠ "java/lang/invoke/MethodHandle" ∧ y.cls ≠ "java/lang/invoke/VarHandle" ∧ (parseMethodDescriptor y.desc).map (fun d => d.parameters.length) = some k) ∧ (Jvm.Cond.methodLink own i y ∈ mm_gt ∨ (own, i, y) ∈ mm_nst) ∧
  q.2.2.2.2.1.1 = 2 ∧ q.1 = k + 1 ∧ y.name = "<init>" ∧ Jvm.Cond.instanceMethod y ∈ mm_gt
section MI
variable {p : Program} {l : Launch} {e : Env} {R : Room} {s : State} {m : MethodId} {args : Array Value} {below : List Frame} {meth : Method} {c : Code} {Q : State → Prop}
variable {cc : ByteArray} {own : String} {g : SG} {E : NE}
theorem mm_callI_sound (C : mm_Ctx p R s m args meth c cc own g E) (hSd : mm_Sd g s s.heap) (hAO : mm_AO s) {lev : Nat} (hRf : lev ≤ R.frames) (hRl : 40 * lev ≤ R.locals) (hRc : ne_rc E ≤ R.cells) (hRs : ne_rs E ≤ R.slots) {pc i : Nat} {ins : Instr} {n mc ms : Nat} {th : Bool} {ck : Nat × Nat} {T : Tr} (hCB : mm_CI l own lev i (n, mc, ms, th, ck, T)) (hd : decode cc pc = .ok (ins, 3))
    {av rest : List MV} {lv : LV} {h : HP} {cn sn : Nat} {N' : Option MV → HP → Prop} (hkind : (ins = .invokevirtual i ∧ mm_rc 0 ck av h = true) ∨ (ins = .invokestatic i ∧ mm_rc 1 ck av h = true) ∨ (ins = .invokespecial i ∧ mm_rc 2 ck av h = true)) (hlen : av.length = n) (hwd : mm_wd rest ≤ 8) (hcn : cn + mc ≤ ne_rc E) (hsn : sn + ms ≤ ne_rs E) (hT : T av h N' (fun _ _ => False))
    (hk : ∀ (r : Option MV) (h' : HP), N' r h' → mm_K p l e R s m args below meth c Q g (pc + 3) lv (r.toList ++ rest) h' (cn + mc) (sn + ms)) : mm_K p l e R s m args below meth c Q g pc lv (av.reverse ++ rest) h cn sn := by
  obtain ⟨-, y, cy, nL, lev', k, hM, hl1, hl2, hcode, hini, hd2, hlink, hk2, hn, hnm, hinst⟩ := hCB
  obtain ⟨hx, hb, hown, hts, hK, hB, hini9, hlt, hft, hro, hgs, hoi, hoiw⟩ := C
  intro H locs ls hH hS hL hs
  have hsr : mm_okS rest := mm_okS_of _ (fun v hv => mm_okS_mem _ hs v (List.mem_append_right _ hv))
  have hsa : mm_okS av := mm_okS_of _ (fun v hv => mm_okS_mem _ hs v (List.mem_append_left _ (List.mem_reverse.mpr hv)))
  have hMM := hM g av h N' hT
  have hpre : ∀ U : State, U.heap = H → s.WarmedH U.vm → mm_PreI g av h (av.map (mm_cv g)).toArray U := fun U hU hW =>
    ⟨⟨rfl, by rw [hU]; exact hH, va_K.moved hW.alike hK, hsa, by rw [hU]; exact mm_Sd_warm hW (mm_Sd_kept hB hSd hS.2.1)⟩, mm_AO_warm hW hAO⟩
  have hroom : (mm_rm lev' mc ms).frames + 1 ≤ R.frames ∧ 8 + (nL + 11) + (mm_rm lev' mc ms).locals ≤ R.locals := ⟨Nat.le_trans hl1 hRf, Nat.le_trans hl2 hRl⟩
  have hgood := mm_goodws (Ts := mm_gt) (fun _ h => h) hcode
  have hfix : CallFix p m c cc c.maxLocals s args mm_gt own := ⟨hx, hb, rfl, hown, hts⟩
  have hsum : ((rest.map (mm_cv g)).map fun v => v.category).sum ≤ 8 := by rw [mm_wdle]; exact hwd
  have hcs : cn + mc ≤ R.cells ∧ sn + ms ≤ R.slots := ⟨Nat.le_trans hcn hRc, Nat.le_trans hsn hRs⟩
  have hk1 : ck.1 = 2 := hk2
  rcases hkind with ⟨rfl, hrc⟩ | ⟨rfl, hrc⟩ | ⟨rfl, hrc⟩
  · simp only [mm_rc, Bool.and_eq_true] at hrc
    exact absurd ((Nat.eq_of_beq_eq_true hrc.1).symm.trans hk1) (by decide)
  · simp only [mm_rc, Bool.and_eq_true] at hrc
    exact absurd ((Nat.eq_of_beq_eq_true hrc.1).symm.trans hk1) (by decide)
  · simp only [mm_rc, Bool.and_eq_true] at hrc
    have hrv : mm_rcv ck.2 av h = true := by
      have := hrc.2
      simpa using this
    unfold mm_rcv at hrv
    split at hrv
    · rename_i a as
      rcases hlink with hlink | hlink
      · have hrun := va_runI (l := l) (e := e) (below := below) (meth := meth) (locs := locs) (cells := cn) (slots := sn) (As := as.map (mm_cv g)) (rest := rest.map (mm_cv g)) (b := mm_ad g a) (g := F0 m pc ls (((mR a :: as).reverse ++ rest).map (mm_cv g))) hfix hMM ⟨callB_of (Ts := mm_gt) (args := args) (s := s) (R := R) (own := own) (index := i) (rm := mm_rm lev' mc ms) k hts hgood rfl rfl rfl (hts _ hini) (hts _ hlink) hd2 hroom, hnm, hts _ hinst⟩ ⟨mm_blindI, hpre⟩ rfl (by
            simp only [List.length_map]
            have : (mR a :: as).length = n := hlen
            have hn' : n = k + 1 := hn
            simp at this
            omega) hL.1.1 (by simp [List.map_append, List.map_reverse]; rfl) (lv_room hsum) hd hcs
        exact mm_back hrun hS hL hsr hk
      · have hrun := va_runIN (host := RX9) (l := l) (e := e) (below := below) (meth := meth) (locs := locs) (cells := cn) (slots := sn) (As := as.map (mm_cv g)) (rest := rest.map (mm_cv g)) (b := mm_ad g a) (g := F0 m pc ls (((mR a :: as).reverse ++ rest).map (mm_cv g))) hfix hMM ⟨va_cnB (Ts := mm_gt) (args := args) (s := s) (R := R) (own := own) (index := i) (rm := mm_rm lev' mc ms) k hts hgood rfl rfl rfl (hAO.2 _ hlink) (hts _ hini) hd2 hroom, hnm, hts _ hinst⟩ ⟨mm_blindI, hpre⟩ rfl (by
            simp only [List.length_map]
            have : (mR a :: as).length = n := hlen
            have hn' : n = k + 1 := hn
            simp at this
            omega) hL.1.1 (by simp [List.map_append, List.map_reverse]; rfl) (lv_room hsum) hd hcs
        exact mm_back hrun hS hL hsr hk
    · cases hrv
end MI
theorem mm_ci_nil {l : Launch} {own : String} {lev : Nat} : ∀ (i : Nat) (q : CE), mm_look [] i = some q → (mm_CQ l own lev i q ∨ mm_CI l own lev i q) := fun _ _ h => nomatch h
theorem mm_ci_cons {l : Launch} {own : String} {lev k : Nat} {v : CE} {t : List (Nat × CE)} (h1 : mm_CQ l own lev k v ∨ mm_CI l own lev k v) (h2 : ∀ (i : Nat) (q : CE), mm_look t i = some q → (mm_CQ l own lev i q ∨ mm_CI l own lev i q)) : ∀ (i : Nat) (q : CE), mm_look ((k, v) :: t) i = some q → (mm_CQ l own lev i q ∨ mm_CI l own lev i q) := by
  intro i q h
  unfold mm_look at h
  split at h
  · rename_i hk; cases h; rw [← Nat.eq_of_beq_eq_true hk]; exact h1
  · exact h2 i q h
def mm_Yi (y : MethodName) (cc : ByteArray) (nL : Nat) (k : Nat) : Prop := Jvm.Cond.code y cc nL none ∈ mm_gt ∧ Jvm.Cond.initialized y.cls ∈ mm_gt ∧ (y.cls ≠ "java/lang/invoke/MethodHandle" ∧ y.cls ≠ "java/lang/invoke/VarHandle" ∧ (parseMethodDescriptor y.desc).map (fun d => d.parameters.length) = some k) ∧ y.name = "<init>" ∧ Jvm.Cond.instanceMethod y ∈ mm_gt
theorem mm_cis {l : Launch} {own : String} {lev i n mc ms ci : Nat} {T : Tr} {y : MethodName} {cc : ByteArray} {nL lev' k : Nat} (hY : mm_Yi y cc nL k) (hl : Jvm.Cond.methodLink own i y ∈ mm_gt ∨ (own, i, y) ∈ mm_nst) (hM : mm_MetI l y cc nL lev' mc ms T) (h1 : lev' + 1 ≤ lev) (h2 : 8 + (nL + 11) + 40 * lev' ≤ 40 * lev) (hn : n = k + 1) : mm_CI l own lev i (n, mc, ms, false, (2, ci), T) :=
  ⟨rfl, y, cc, nL, lev', k, hM, h1, h2, hY.1, hY.2.1, hY.2.2.1, hl, rfl, hn, hY.2.2.2.1, hY.2.2.2.2⟩
set_option maxHeartbeats 4000000 in
theorem mm_metI {l : Launch} {y : MethodName} {cc : ByteArray} {nL lev : Nat} {E : NE} {cd : MC} {T : Tr} (hspec : mm_Spec E cd nL T) (hy : plainName y.cls = true) (hdec : ∀ q ∈ cd, decode cc q.1 = .ok (q.2.1, q.2.2)) (hcok : mm_codeok cd = true) (hrk : ne_rk E = 0) (htt : ne_tt E = []) (hrs : ne_rs E ≤ 60000000) (hN : mm_Nok y.cls (ne_nt E)) (hmx : ∀ i ∈ mm_mix cd, Jvm.Cond.classLink y.cls i "[[I" ∈ mm_gt) (hEok : mm_Eok y.cls y.name lev E)
    (hcalls : ∀ (i : Nat) (q : CE), mm_look (ne_ct E) i = some q → (mm_CQ l y.cls lev i q ∨ mm_CI l y.cls lev i q)) : mm_MetI l y cc nL lev (ne_rc E) (ne_rs E) T := by
  intro g av h N hT
  refine Met.ofW (cc := cc) (maxL := nL) (ret := none) hy rfl ?_
  intro p e s m args below meth c s₁ B hml hv
  obtain ⟨⟨rfl, hH, hK, hsa, hSd⟩, hAO⟩ := hv
  have hx := B.exec
  have hb := B.bytes
  have hr := B.returns
  have hts0 := atoms_spec (ws := mm_ws y cc nL none) B.pre
  have hts : ∀ w ∈ mm_gt, w.before (av.map (mm_cv g)).toArray s = true := fun w hw => hts0 w (List.mem_cons_of_mem _ hw)
  have hown : s.vm.findClass y.cls = some m.cls := findClass_of_methodNamed B.named
  have hlocks := B.notSynchronized
  have hin := (name_of_methodNamed B.named B.method).1
  have hB : g.2.2.1 ≤ s.heap.size := hH.2.2.2.2.2.1
  obtain ⟨e1, e2, e3, e4, e5, e6, e7⟩ := hEok
  have C : mm_Ctx p (headSpec (mm_ws y cc nL none) (mm_rm lev (ne_rc E) (ne_rs E))).room s m (av.map (mm_cv g)).toArray meth c cc y.cls g E := by
    refine ⟨hx, hb, hown, hts, hK, hB, fun hi => ⟨hin.trans (e3 hi).1, (e3 hi).2⟩, fun i v hv => ?_, e1, fun i n f hf => ?_, fun i a ha => ?_, ?_, fun i hi => ⟨hts _ (e7 i hi), hts _ mm_oi1, hts _ mm_oi2⟩⟩
    · have := e2 (i, v) (mm_look_mem _ _ _ hv)
      exact ⟨fun z hz => hts _ (this.1 z hz), fun x hx2 => hts _ (this.2 x hx2)⟩
    · obtain ⟨rfl, rfl, rfl⟩ := e4 i n f hf
      exact ⟨by omega, hSd.2.1, Nat.lt_of_lt_of_le hSd.2.2.1 hB, Nat.not_le.mpr hSd.2.2.1, by omega, mm_primes_rng⟩
    · obtain ⟨rfl, hl⟩ := e5 i a ha
      exact ⟨by omega, RX1, "PRIMES", "[I", hSd.1, hts _ hl⟩
    · rcases e6 with h0 | h0
      · exact Or.inl h0
      · refine Or.inr ⟨h0, ?_⟩
        show 20 ≤ 40 * lev
        omega
  have hE : mm_Ends (cd := cd) p l e (headSpec (mm_ws y cc nL none) (mm_rm lev (ne_rc E) (ne_rs E))).room s m (av.map (mm_cv g)).toArray below meth c (MQ below (mm_Post g N) (av.map (mm_cv g)).toArray s (ne_rc E) (ne_rs E) (mm_A g)) cc g E N (fun _ _ => False) := by
    refine ⟨?_, ?_, ?_, ?_⟩
    · intro pc ins r h' cn sn H locs ls hd hk hN hc1 hc2 hH' hS' hok
      refine W.widen hc1 hc2 ?_
      have hq : ∀ (v : Option Value), v = r.map (mm_cv g) → ∀ t : State, t.heap = H → s.WarmedH t.vm → mm_Post g N (av.map (mm_cv g)).toArray s (.returned v) t := fun v hv t ht _ => ⟨r, h', by rw [hv], hN, hok, by rw [ht]; exact hH', hS'.F ht⟩
      unfold mm_rk at hk
      rw [hrk] at hk
      split at hk
      · obtain ⟨k0, rfl⟩ := hk
        exact W.vret hx hb hr (hq none rfl) hS'.2.2 hd
      · split at hk
        · rcases hk with k0 | ⟨k0, hz⟩ <;> cases k0
        · cases hk
      · split at hk
        · cases hk
        · cases hk
      · split at hk
        · cases hk
        · cases hk
      · cases hk
    · intro pc ins i n mc ms th ck T' hd hlk av' rest lv h' cn sn N' hkind hlen hwd hcn hsn hT' hk
      rcases hcalls i _ hlk with hcb | hcb
      · have hth : th = false := hcb.1
        subst hth
        exact hcb.2 C hSd rfl rfl rfl rfl hd hkind hlen hwd hcn hsn hT' hk
      · have hth : th = false := hcb.1
        subst hth
        exact mm_callI_sound C hSd hAO (Nat.le_refl _) (Nat.le_refl _) (Nat.le_refl _) (Nat.le_refl _) hcb hd hkind hlen hwd hcn hsn hT' hk
    · intro pc ins len hin2 htt2 hd hl lv st st' h1 h2 cn sn a b ha hca hsb hk
      exact mm_alloc_sound C hN rfl rfl hrs hd hl (fun i hi => by subst hi; exact hmx i (mm_mix_in hin2)) (fun i _ => over_moved (u := s) (Vm.Alike.refl s.vm) hAO.1) ha hca hsb hk
    · intro pc en lv st h' cn sn _ hen _ _ _ hX
      exact hX.elim
  have hcl := mm_cl_sound C hdec hcok hE
  obtain ⟨hl1, hK0⟩ := hspec N (fun _ _ => False) _ av h hcl hT
  rw [lg_entry_eq]
  exact hK0 s.heap [] _ hH va_S.rf (by rw [hml]; exact mm_entry_ok (Nat.le_of_ble_eq_true hl1) hsa) trivial
