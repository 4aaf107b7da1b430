/-! the law's own methods: a call, its answer kept, what it throws caught -/
def mm_Cst (U : State) : Prop := va_Nw (.castable xI xI) U ∧ va_Nw (.castable xN xN) U ∧ va_Nc xI xN U ∧ va_Nc xN xI U
theorem mm_Cst_warm {s U : State} (hW : s.WarmedH U.vm) (h : mm_Cst s) : mm_Cst U := ⟨va_Nw.warmC hW h.1, va_Nw.warmC hW h.2.1, va_Nc.moved hW.alike h.2.2.1, va_Nc.moved hW.alike h.2.2.2⟩
def mm_PreL (g : SG) (av : List MV) (h : HP) : Array Value → State → Prop := fun v U => mm_PreX g av h v U ∧ mm_Cst U
theorem mm_blindL {g : SG} {av : List MV} {h : HP} : FrameBlind (mm_PreL g av h) := fun a U g2 mk q => ⟨mm_blindX a U g2 mk q.1, va_Nw.same (u := U) rfl rfl q.2.1, va_Nw.same (u := U) rfl rfl q.2.2.1, va_Nc.moved (u := U) (Vm.Alike.refl U.vm) q.2.2.2.1, va_Nc.moved (u := U) (Vm.Alike.refl U.vm) q.2.2.2.2⟩
abbrev HH : Type := List (Nat × Nat × Nat × Nat)
def mm_MetL (l : Launch) (y : MethodName) (cc : ByteArray) (nL : Nat) (hh : HH) (lev mc ms : Nat) (T : Tr) : Prop :=
  ∀ (g : SG) (av : List MV) (h : HP) (N : Option MV → HP → Prop), T av h N (fun _ _ => False) → Met l y (.codeWith y cc nL (some .int) hh :: mm_gt) (mm_rm lev mc ms) (mm_PreL g av h) (mm_Post g N) mc ms (mm_A g)
/-- a handler: it keeps the exception and answers -/
def mm_hd (cc : ByteArray) (nL hp i : Nat) (v : Int) : Prop := i < nL ∧ ((decode cc hp = .ok (.astore i, 2) ∧ decode cc (hp + 2) = .ok (.iconst v, 1) ∧ decode cc (hp + 2 + 1) = .ok (.ireturn, 1)) ∨ ∃ k : Fin 4, k.val = i ∧ decode cc hp = .ok (.astore_n k, 1) ∧ decode cc (hp + 1) = .ok (.iconst v, 1) ∧ decode cc (hp + 1 + 1) = .ok (.ireturn, 1))
/-- which handlers: 0 the one, 1 the other, 2 both -/
def mm_hc (w : Nat) (en : String) : Option Int := match w with
  | 0 => if en = xI then some 1 else none
  | 1 => if en = xN then some 1 else none
  | _ => if en = xN then some 1 else if en = xI then some 2 else none
def mm_hh (w e1 h1 h2 : Nat) : HH := match w with
  | 0 => [(0, e1, h1, 13)]
  | 1 => [(0, e1, h1, 19)]
  | _ => [(0, e1, h1, 19), (0, e1, h2, 13)]
theorem mm_li : Jvm.Cond.classLink RL 13 xI ∈ mm_gt := tb3 (i := 102) rfl rfl
theorem mm_ln : Jvm.Cond.classLink RL 19 xN ∈ mm_gt := tb4 (i := 84) rfl rfl
section ML
variable {p : Program} {l : Launch} {e : Env} {R : Room} {s : State} {m : MethodId} {args : Array Value} {below : List Frame} {meth : Method} {c : Code}
variable {cc : ByteArray} {g : SG}
theorem mm_handle {N : Option MV → HP → Prop} {h : HP} {H : Heap} {locs : List Loc} {ls : Array Slot} {lv : LV} {q hp i mc ms cn sn : Nat} {v : Int} (hx : p.tables.exec = Jvm.exec) (hb : c.code = cc) (hr : meth.sig.returnType = some .int) (hlocks : meth.locks = false) (hhd : mm_hd cc c.maxLocals hp i v) (hv : mm_rng v) (hL : mm_okL g lv ls c.maxLocals) (hH : mm_okH g h H) (hS : va_S (mm_A g) s.heap H locs) (hN : N (some (mI v)) h) (hc : cn ≤ mc) (hs : sn ≤ ms) : W p l e R s m args below meth c H locs cn sn (MQ below (mm_Post g N) args s mc ms (mm_A g)) (F0 m hp ls [.ref q]) := by
  obtain ⟨hi, hh⟩ := hhd
  have hq : ∀ t : State, t.heap = H → s.WarmedH t.vm → mm_Post g N args s (.returned (some (.int (Int32.ofInt v)))) t := fun t ht _ => ⟨some (mI v), h, rfl, hN, fun w hw => by cases hw; exact hv, by rw [ht]; exact hH, hS.F ht⟩
  refine W.widen hc hs ?_
  rcases hh with ⟨d1, d2, d3⟩ | ⟨k, hk, d1, d2, d3⟩
  · refine lv_astore hx hb d1 hL.1 hi rfl (fun ls' hl' => ?_)
    refine lv_iconst hx hb d2 rfl ?_
    exact W.iret hx hb hr hq hS.2.2 d3
  · refine lv_astore_n hx hb d1 hk hL.1 hi rfl (fun ls' hl' => ?_)
    refine lv_iconst hx hb d2 rfl ?_
    exact W.iret hx hb hr hq hS.2.2 d3
theorem mm_backL {E : NE} {w e1 h1 h2 i1 i2 : Nat} {N N' : Option MV → HP → Prop} {pc mc ms cn sn : Nat} {ls : Array Slot} {lv : LV} {st0 : List Value} {rest : List MV} {H : Heap} {locs : List Loc} {a : Array Value} (hw : w ≤ 2) (hx : p.tables.exec = Jvm.exec) (hb : c.code = cc) (hown : s.vm.findClass RL = some m.cls) (hts : ∀ w ∈ mm_gt, w.before args s = true) (hret : meth.sig.returnType = some .int) (hlocks : meth.locks = false) (hC : mm_Cst s) (htab : c.exceptionTable.toList = tableOf (mm_hh w e1 h1 h2)) (hpc : pc < e1) (hd1 : mm_hd cc c.maxLocals h1 i1 1) (hd2 : w = 2 → mm_hd cc c.maxLocals h2 i2 2)
    (hr : vx_Run p l e R s m args below meth c H locs cn sn mc ms (F0 m pc ls st0) (rest.map (mm_cv g)) (mm_Post g N' a) (mm_XC g (fun en h => ∃ v, mm_hc w en = some v ∧ N (some (mI v)) h)) (mm_A g)) (hS : va_S (mm_A g) s.heap H locs) (hL : mm_okL g lv ls c.maxLocals) (hs : mm_okS rest) (hcn : cn + mc ≤ ne_rc E) (hsn : sn + ms ≤ ne_rs E)
    (hk : ∀ (r : Option MV) (h' : HP), N' r h' → mm_K p l e R s m args below meth c (MQ below (mm_Post g N) args s (ne_rc E) (ne_rs E) (mm_A g)) g (pc + 3) lv (r.toList ++ rest) h' (cn + mc) (sn + ms)) : W p l e R s m args below meth c H locs cn sn (MQ below (mm_Post g N) args s (ne_rc E) (ne_rs E) (mm_A g)) (F0 m pc ls st0) := by
  intro T hT Xs
  rcases hr T hT Xs with ⟨v, st₀, t, T', L, h0, X', hLf, q1, q2, ⟨r, h', hv, hn, hok, hH', hz, hkp⟩, stp⟩ | ⟨q, st₀, t, T', L, en, ce, h0, X', hLf, q1, q2, ⟨h', ⟨v, hv, hx2⟩, hH', hz, hkp⟩, hce, hcv, hcl, stp⟩
  · have hv2 : v = r.map (mm_cv g) := by injection hv
    subst hv2
    rw [h0] at hz hkp
    have hSn : va_S (mm_A g) s.heap T'.heap (locs ++ L) := by
      refine ⟨Nat.le_trans hS.1 (by rw [q1]; exact hz), fun q h1 h2 => ?_, fun q hq => ?_⟩
      · rw [q1, hkp q (Nat.lt_of_lt_of_le h1 hS.1) h2]
        exact hS.2.1 q h1 h2
      · rcases List.mem_append.mp hq with h | h
        · exact hS.2.2 q h
        · exact hLf q h
    have hst : (r.toList ++ rest).map (mm_cv g) = (r.map (mm_cv g)).toList ++ rest.map (mm_cv g) := by
      cases r <;> simp
    have hK2 := hk r h' hn T'.heap (locs ++ L) ls (by rw [q1]; exact hH') hSn hL (by
      cases r with
      | none => exact hs
      | some v => exact ⟨hok v rfl, hs⟩)
    rw [hst] at hK2
    obtain ⟨t2, a1, b1⟩ := hK2 T' rfl X'
    exact ⟨t2, stp t2 a1, b1⟩
  · rw [h0] at hz hkp
    have hSn : va_S (mm_A g) s.heap T'.heap (locs ++ L) := by
      refine ⟨Nat.le_trans hS.1 (by rw [q1]; exact hz), fun q h1 h2 => ?_, fun q hq => ?_⟩
      · rw [q1, hkp q (Nat.lt_of_lt_of_le h1 hS.1) h2]
        exact hS.2.1 q h1 h2
      · rcases List.mem_append.mp hq with h | h
        · exact hS.2.2 q h
        · exact hLf q h
    have hH2 : mm_okH g h' T'.heap := by rw [q1]; exact hH'
    have fin : ∀ (hp i : Nat), mm_hd cc c.maxLocals hp i v → mm_rng v → W p l e R s m args below meth c T'.heap (locs ++ L) (cn + mc) (sn + ms) (MQ below (mm_Post g N) args s (ne_rc E) (ne_rs E) (mm_A g)) (F0 m hp ls [.ref q]) := fun hp i hh hrv => mm_handle hx hb hret hlocks hh hrv hL hH2 hSn hx2 hcn hsn
    have r1 : mm_rng 1 := ⟨by decide, by decide⟩
    have r2 : mm_rng 2 := ⟨by decide, by decide⟩
    have cov : ∀ hp lk : Nat, covers ⟨0, e1, hp, lk⟩ pc = true := fun hp lk => by
      show (decide (0 ≤ pc) && decide (pc < e1)) = true
      rw [decide_eq_true (Nat.zero_le pc), decide_eq_true hpc]
      rfl
    have hW : vx_W p l e R s m args below meth c T'.heap (locs ++ L) (cn + mc) (sn + ms) (MQ below (mm_Post g N) args s (ne_rc E) (ne_rs E) (mm_A g)) (F0 m pc ls (rest.map (mm_cv g))) q := by
      match w, hw with
      | 0, _ =>
        have hv : (if en = xI then some (1 : Int) else none) = some v := hv
        by_cases he : en = xI
        · rw [if_pos he] at hv
          have hv := Option.some.inj hv
          subst hv
          subst he
          exact vx_catch (own := RL) (name := xI) (E := xI) (ce := ce) hown [] ⟨0, e1, h1, 13⟩ [] htab (fun z hz => nomatch hz) (cov _ _) (show (13 : Nat) ≠ 0 by decide) (hts _ mm_li) (va_any rfl hC.1) (by rw [q1]; exact hce) hcv hcl (fin h1 i1 hd1 r1)
        · rw [if_neg he] at hv
          cases hv
      | 1, _ =>
        have hv : (if en = xN then some (1 : Int) else none) = some v := hv
        by_cases he : en = xN
        · rw [if_pos he] at hv
          have hv := Option.some.inj hv
          subst hv
          subst he
          exact vx_catch (own := RL) (name := xN) (E := xN) (ce := ce) hown [] ⟨0, e1, h1, 19⟩ [] htab (fun z hz => nomatch hz) (cov _ _) (show (19 : Nat) ≠ 0 by decide) (hts _ mm_ln) (va_any rfl hC.2.1) (by rw [q1]; exact hce) hcv hcl (fin h1 i1 hd1 r1)
        · rw [if_neg he] at hv
          cases hv
      | 2, _ =>
        have hv : (if en = xN then some (1 : Int) else if en = xI then some 2 else none) = some v := hv
        by_cases he : en = xN
        · rw [if_pos he] at hv
          have hv := Option.some.inj hv
          subst hv
          subst he
          exact vx_catch (own := RL) (name := xN) (E := xN) (ce := ce) hown [] ⟨0, e1, h1, 19⟩ [⟨0, e1, h2, 13⟩] htab (fun z hz => nomatch hz) (cov _ _) (show (19 : Nat) ≠ 0 by decide) (hts _ mm_ln) (va_any rfl hC.2.1) (by rw [q1]; exact hce) hcv hcl (fin h1 i1 hd1 r1)
        · rw [if_neg he] at hv
          by_cases he2 : en = xI
          · rw [if_pos he2] at hv
            have hv := Option.some.inj hv
            subst hv
            subst he2
            exact vx_catch (own := RL) (name := xI) (E := xI) (ce := ce) hown [⟨0, e1, h1, 19⟩] ⟨0, e1, h2, 13⟩ [] htab (fun z hz => by
              rw [List.mem_singleton.mp hz]
              exact Or.inr ⟨show (19 : Nat) ≠ 0 by decide, xN, hts _ mm_ln, hC.2.2.1⟩) (cov _ _) (show (13 : Nat) ≠ 0 by decide) (hts _ mm_li) (va_any rfl hC.1) (by rw [q1]; exact hce) hcv hcl (fin h2 i2 (hd2 rfl) r2)
          · rw [if_neg he2] at hv
            cases hv
    obtain ⟨t2, a1, b1⟩ := hW T' rfl X'
    exact ⟨t2, stp.trans a1, b1⟩
end ML
abbrev eLw (rc rs : Nat) : NE := ([], [], [], [], [], false, 1, (rc, rs), [], [], [], true)
/-- up to the call, the call, behind it -/
def mm_SpecL (rc rs : Nat) (cd : MC) (nL pcall n w : Nat) (T9 T : Tr) : Prop := ∀ (N : Option MV → HP → Prop) (K : Nat → LV → List MV → HP → Nat → Nat → Prop) (av : List MV) (h : HP), mm_Cl (eLw rc rs) cd N (fun _ _ => False) K → T av h N (fun _ _ => False) → ∃ (av9 rest : List MV) (lv : LV) (N' : Option MV → HP → Prop), av9.length = n ∧ mm_wd rest ≤ 8 ∧ mm_rc 0 (0, 9) av9 h = true ∧ T9 av9 h N' (fun en h => ∃ v, mm_hc w en = some v ∧ N (some (mI v)) h) ∧ (∀ (r : Option MV) (h' : HP), N' r h' → K (pcall + 3) lv (r.toList ++ rest) h' rc rs) ∧ (K pcall lv (av9.reverse ++ rest) h 0 0 → Nat.ble (mm_lay av).length nL = true ∧ K 0 (mm_entry nL av) [] h 0 0)
theorem mm_ofWH {l : Launch} {y : MethodName} {ws ws' : List Jvm.Cond} {rm : Room} {Pc : Array Value → State → Prop} {Qc : Array Value → State → Outcome → State → Prop} {mc ms : Nat} {free : Addr → Prop} {cc : ByteArray} {maxL : Nat} {ret : Option FieldType} {hh : HH}
    (hy : plainName y.cls = true) (hw : ws = Jvm.Cond.codeWith y cc maxL ret hh :: ws')
    (body : ∀ p e s m args below meth c s₁, BodyLoose p l y (headSpec ws rm) cc maxL ret e s m args below meth c s₁ → c.maxLocals = maxL → Pc args s →
      W p l e (headSpec ws rm).room s m args below meth c s.heap [] 0 0 (MQ below Qc args s mc ms free) (entryFrame m args maxL)) : Met l y ws rm Pc Qc mc ms free := by
  refine MetFree.of_bodyS (code := cc) (maxLocals := maxL) (ret := ret) hy ?_ ?_
  · intro args s m h hn
    obtain ⟨m9, meth, c, hn9, h1, h2, h3, h4, -, h5, h6, -⟩ := Cond.codeWith_spec (atoms_spec (ws := ws) h _ (by rw [hw]; exact List.mem_cons_self))
    cases hn.symm.trans hn9
    exact ⟨meth, c, h1, h2, h3, h4, h5, h6⟩
  · intro p e s m args below meth c s₁ B hml hP _
    have hh0 : s₁.heap = s.heap := by rw [B.state]; rfl
    obtain ⟨t, a1, o, b1, b2, b3⟩ := body p e s m args below meth c s₁ B hml hP s₁ hh0 (Stand.of_body B)
    exact ⟨t, o, a1, b1, b2, ⟨b3.1, b3.2⟩⟩
set_option maxHeartbeats 4000000 in
theorem mm_metL {l : Launch} {y : MethodName} {cc : ByteArray} {nL lev rc rs pcall n w i e1 h1 h2 i1 i2 : Nat} {cd : MC} {T9 T : Tr} (hspec : mm_SpecL rc rs cd nL pcall n w T9 T) (hy : plainName y.cls = true) (hyc : y.cls = RL) (hdec : ∀ q ∈ cd, decode cc q.1 = .ok (q.2.1, q.2.2)) (hcok : mm_codeok cd = true) (hna : mm_noal (eLw rc rs) cd = true) (hw : w ≤ 2) (hdc : decode cc pcall = .ok (.invokevirtual i, 3)) (hpc : pcall < e1) (hd1 : mm_hd cc nL h1 i1 1) (hd2 : w = 2 → mm_hd cc nL h2 i2 2) (hcx : mm_CX l RL lev i (n, rc, rs, true, (0, 9), T9)) : mm_MetL l y cc nL (mm_hh w e1 h1 h2) lev rc rs T := by
  intro g av h N hT
  refine mm_ofWH (cc := cc) (maxL := nL) (ret := some .int) (hh := mm_hh w e1 h1 h2) hy rfl ?_
  intro p e s m args below meth c s₁ B hml hv
  obtain ⟨⟨⟨rfl, hH, hK, hsa, hSd⟩, hDc⟩, hCst⟩ := hv
  have hx := B.exec
  have hb := B.bytes
  have hr := B.returns
  have hts0 := atoms_spec (ws := Jvm.Cond.codeWith y cc nL (some .int) (mm_hh w e1 h1 h2) :: mm_gt) B.pre
  have hts : ∀ w ∈ mm_gt, w.before (av.map (mm_cv g)).toArray s = true := fun w hw => hts0 w (List.mem_cons_of_mem _ hw)
  have htab : c.exceptionTable.toList = tableOf (mm_hh w e1 h1 h2) := vx_table (x := y) B (hts0 _ List.mem_cons_self)
  have hown0 : s.vm.findClass y.cls = some m.cls := findClass_of_methodNamed B.named
  have hown : s.vm.findClass RL = some m.cls := by rw [← hyc]; exact hown0
  have hlocks := B.notSynchronized
  have hB : g.2.2.1 ≤ s.heap.size := hH.2.2.2.2.2.1
  have C : mm_Ctx p (headSpec (Jvm.Cond.codeWith y cc nL (some .int) (mm_hh w e1 h1 h2) :: mm_gt) (mm_rm lev rc rs)).room s m (av.map (mm_cv g)).toArray meth c cc RL g (eLw rc rs) :=
    ⟨hx, hb, hown, hts, hK, hB, (fun hi => nomatch hi), (fun i v hv => nomatch hv), (fun _ _ _ h => nomatch h), (fun _ _ _ h => nomatch h), (fun _ _ h => nomatch h), Or.inl rfl, (fun _ h => nomatch h)⟩
  have hE : mm_Ends (cd := cd) p l e (headSpec (Jvm.Cond.codeWith y cc nL (some .int) (mm_hh w e1 h1 h2) :: mm_gt) (mm_rm lev rc rs)).room s m (av.map (mm_cv g)).toArray below meth c (MQ below (mm_Post g N) (av.map (mm_cv g)).toArray s rc rs (mm_A g)) cc g (eLw rc rs) N (fun _ _ => False) := by
    refine ⟨?_, ?_, ?_, ?_⟩
    · intro pc ins r h' cn sn H locs ls hd hk hN hc1 hc2 hH' hS' hok
      refine W.widen hc1 hc2 ?_
      have hq : ∀ (v : Option Value), v = r.map (mm_cv g) → ∀ t : State, t.heap = H → s.WarmedH t.vm → mm_Post g N (av.map (mm_cv g)).toArray s (.returned v) t := fun v hv t ht _ => ⟨r, h', by rw [hv], hN, hok, by rw [ht]; exact hH', hS'.F ht⟩
      unfold mm_rk at hk
      split at hk
      · obtain ⟨k0, rfl⟩ := hk
        exact absurd k0 (show ¬ (1 : Nat) = 0 by decide)
      · split at hk
        · rename_i z
          exact W.iret hx hb hr (hq _ rfl) hS'.2.2 hd
        · cases hk
      · split at hk
        · exact absurd hk (show ¬ (1 : Nat) = 3 by decide)
        · cases hk
      · split at hk
        · exact absurd hk (show ¬ (1 : Nat) = 4 by decide)
        · cases hk
      · cases hk
    · intro pc ins i n mc ms th ck T' hd hlk
      exact nomatch hlk
    · intro pc ins len hin htt2 hd hl lv st st' h1 h2 cn sn a b ha
      have h3 := List.all_eq_true.mp hna _ hin
      simp only [htt2] at h3
      unfold mm_alloc at ha
      split at ha
      · cases h3
      · cases h3
      · cases h3
      · cases ha
    · intro pc en lv st h' cn sn _ hen _ _ _ hX
      exact hX.elim
  have hcl := mm_cl_sound C hdec hcok hE
  obtain ⟨av9, rest, lv, N', g1, g2, g3, g4, g5, g6⟩ := hspec N _ av h hcl hT
  have hkc : mm_K p l e (headSpec (Jvm.Cond.codeWith y cc nL (some .int) (mm_hh w e1 h1 h2) :: mm_gt) (mm_rm lev rc rs)).room s m (av.map (mm_cv g)).toArray below meth c (MQ below (mm_Post g N) (av.map (mm_cv g)).toArray s rc rs (mm_A g)) g pcall lv (av9.reverse ++ rest) h 0 0 := by
    obtain ⟨-, y9, cy, nL9, ret9, lev', k, hM, hl1, hl2, hcode, hini, hd9, hlink, hk0, hn, ⟨r, hr1, hr2⟩, hinst, hsel⟩ := hcx
    intro H locs ls hH hS hL hs
    have hsr : mm_okS rest := mm_okS_of _ (fun v hv => mm_okS_mem _ hs v (List.mem_append_right _ hv))
    have hsa9 : mm_okS av9 := mm_okS_of _ (fun v hv => mm_okS_mem _ hs v (List.mem_append_left _ (List.mem_reverse.mpr hv)))
    have hMM := hM g av9 h N' _ g4
    have hpre : ∀ U : State, U.heap = H → s.WarmedH U.vm → mm_PreX g av9 h (av9.map (mm_cv g)).toArray U := fun U hU hW =>
      ⟨⟨rfl, by rw [hU]; exact hH, va_K.moved hW.alike hK, hsa9, by rw [hU]; exact mm_Sd_warm hW (mm_Sd_kept hB hSd hS.2.1)⟩, mm_Dc_warm hW hDc⟩
    have hroom : (mm_rm lev' rc rs).frames + 1 ≤ (mm_rm lev rc rs).frames ∧ 8 + (nL9 + 11) + (mm_rm lev' rc rs).locals ≤ (mm_rm lev rc rs).locals := ⟨hl1, hl2⟩
    have hgood := mm_goodws (Ts := mm_gt) (fun _ h => h) hcode
    have hcb := callB_of (Ts := mm_gt) (args := (av.map (mm_cv g)).toArray) (s := s) (R := mm_rm lev rc rs) (own := RL) (index := i) (rm := mm_rm lev' rc rs) k hts hgood rfl rfl rfl (hts _ hini) (hts _ hlink) hd9 hroom
    have hfix : CallFix p m c cc c.maxLocals s (av.map (mm_cv g)).toArray mm_gt RL := ⟨hx, hb, rfl, hown, hts⟩
    have hsum : ((rest.map (mm_cv g)).map fun v => v.category).sum ≤ 8 := by rw [mm_wdle]; exact g2
    simp only [mm_rc, Bool.and_eq_true] at g3
    have hrv : mm_rcv 9 av9 h = true := by
      have := g3.2
      simpa using this
    unfold mm_rcv at hrv
    split at hrv
    · rename_i a as
      split at hrv
      · rename_i cj fs hg
        have ec := Nat.eq_of_beq_eq_true hrv
        have hr3 : vwCl[cj]? = some r := by rw [← ec]; exact hr1
        have hrecv := va_recv hK hH.1 hr3 (mm_wl_get g hg)
        rw [hr2] at hrecv
        have hrun := vx_runV (l := l) (e := e) (below := below) (meth := meth) (locs := locs) (cells := 0) (slots := 0) (As := as.map (mm_cv g)) (rest := rest.map (mm_cv g)) (b := mm_ad g a) (g := F0 m pcall ls (((mR a :: as).reverse ++ rest).map (mm_cv g))) hfix hMM ⟨hcb, hts _ hinst, hts _ hsel⟩ ⟨mm_blindX, hrecv, hpre⟩ rfl (by
          simp only [List.length_map]
          have : (mR a :: as).length = n := g1
          have hn' : n = k + 1 := hn
          simp at this
          omega) hL.1.1 (by simp [List.map_append, List.map_reverse]; rfl) (lv_room hsum) hdc ⟨by show 0 + rc ≤ rc; omega, by show 0 + rs ≤ rs; omega⟩
        exact mm_backL (E := eLw rc rs) hw hx hb hown hts hr hlocks hCst htab hpc (by rw [hml]; exact hd1) (fun z => by rw [hml]; exact hd2 z) hrun hS hL hsr (by show 0 + rc ≤ rc; omega) (by show 0 + rs ≤ rs; omega) (fun r h' hn => by rw [Nat.zero_add, Nat.zero_add]; exact g5 r h' hn)
      · cases hrv
    · cases hrv
  obtain ⟨hl1, hK0⟩ := g6 hkc
  rw [lg_entry_eq]
  exact hK0 s.heap [] _ hH va_S.rf (by rw [hml]; exact mm_entry_ok (Nat.le_of_ble_eq_true hl1) hsa) trivial
