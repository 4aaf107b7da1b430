/-! the law's own walk: its calls, its end -/
section LW
variable {p : Program} {l : Launch} {e : Env} {R : Room} {s : State} {m : MethodId} {args : Array Value} {below : List Frame} {meth : Method} {c : Code} {Q : State → Prop}
variable {cc : ByteArray} {own : String} {g : SG} {E : NE} {N : Option MV → HP → Prop} {X : String → HP → Prop}
theorem mm_call_sound2 (C : mm_Ctx p R s m args meth c cc own g E) (hSd : mm_Sd g s s.heap) {lev : Nat} (hRf : lev ≤ R.frames) (hRl : 40 * lev ≤ R.locals) (hRc : ne_rc E ≤ R.cells) (hRs : ne_rs E ≤ R.slots) {pc i : Nat} {ins : Instr} {n mc ms : Nat} {ck : Nat × Nat} {T : Tr} (hCB : mm_CB l own lev i (n, mc, ms, false, ck, T)) (hd : decode cc pc = .ok (ins, 3))
    {av rest : List MV} {lv : LV} {h : HP} {cn sn : Nat} {N' : Option MV → HP → Prop} (hkind : (ins = .invokevirtual i ∧ mm_rc 0 ck av h = true) ∨ (ins = .invokestatic i ∧ mm_rc 1 ck av h = true) ∨ (ins = .invokespecial i ∧ mm_rc 2 ck av h = true)) (hlen : av.length = n) (hwd : mm_wd rest ≤ 8) (hcn : cn + mc ≤ ne_rc E) (hsn : sn + ms ≤ ne_rs E) (hT : T av h N' (fun _ _ => False))
    (hk : ∀ (r : Option MV) (h' : HP), N' r h' → mm_K p l e R s m args below meth c Q g (pc + 3) lv (r.toList ++ rest) h' (cn + mc) (sn + ms)) : mm_K p l e R s m args below meth c Q g pc lv (av.reverse ++ rest) h cn sn := by
  obtain ⟨-, y, cy, nL, ret, lev', k, hM, hl1, hl2, hcode, hini, hd2, hlink, hK3⟩ := hCB
  obtain ⟨hx, hb, hown, hts, hK, hB, hini9, hlt, hft, hro, hgs, hoi, hoiw⟩ := C
  intro H locs ls hH hS hL hs
  have hsr : mm_okS rest := mm_okS_of _ (fun v hv => mm_okS_mem _ hs v (List.mem_append_right _ hv))
  have hsa : mm_okS av := mm_okS_of _ (fun v hv => mm_okS_mem _ hs v (List.mem_append_left _ (List.mem_reverse.mpr hv)))
  have hMM := hM g av h N' hT
  have hpre : ∀ U : State, U.heap = H → s.WarmedH U.vm → mm_Pre g av h (av.map (mm_cv g)).toArray U := fun U hU hW =>
    ⟨rfl, by rw [hU]; exact hH, va_K.moved hW.alike hK, hsa, by rw [hU]; exact mm_Sd_warm hW (mm_Sd_kept hB hSd hS.2.1)⟩
  have hroom : (mm_rm lev' mc ms).frames + 1 ≤ R.frames ∧ 8 + (nL + 11) + (mm_rm lev' mc ms).locals ≤ R.locals := ⟨Nat.le_trans hl1 hRf, Nat.le_trans hl2 hRl⟩
  have hgood := mm_goodws (Ts := mm_gt) (fun _ h => h) hcode
  have hcb := callB_of (Ts := mm_gt) (args := args) (s := s) (R := R) (own := own) (index := i) (rm := mm_rm lev' mc ms) k hts hgood rfl rfl rfl (hts _ hini) (hts _ hlink) hd2 hroom
  have hfix : CallFix p m c cc c.maxLocals s args mm_gt own := ⟨hx, hb, rfl, hown, hts⟩
  have hsum : ((rest.map (mm_cv g)).map fun v => v.category).sum ≤ 8 := by rw [mm_wdle]; exact hwd
  have hcs : cn + mc ≤ R.cells ∧ sn + ms ≤ R.slots := ⟨Nat.le_trans hcn hRc, Nat.le_trans hsn hRs⟩
  rcases hkind with ⟨rfl, hrc⟩ | ⟨rfl, hrc⟩ | ⟨rfl, hrc⟩
  · -- virtual
    simp only [mm_rc, Bool.and_eq_true] at hrc
    have h0 := Nat.eq_of_beq_eq_true hrc.1
    rcases hK3 with ⟨-, hn, ⟨r, hr1, hr2⟩, hinst, hsel⟩ | ⟨q, -⟩ | ⟨q, -⟩
    · have hrv : mm_rcv ck.2 av h = true := by
        have := hrc.2
        simpa using this
      unfold mm_rcv at hrv
      split at hrv
      · rename_i a as
        split at hrv
        · rename_i cj fs hg
          have ec := Nat.eq_of_beq_eq_true hrv
          have hr3 : vwCl[cj]? = some r := by rw [← ec]; exact hr1
          have hrecv := va_recv hK hH.1 hr3 (mm_wl_get g hg)
          rw [hr2] at hrecv
          have hrun := va_runV (l := l) (e := e) (below := below) (meth := meth) (locs := locs) (cells := cn) (slots := sn) (As := as.map (mm_cv g)) (rest := rest.map (mm_cv g)) (b := mm_ad g a) (g := F0 m pc ls (((mR a :: as).reverse ++ rest).map (mm_cv g))) hfix hMM ⟨hcb, hts _ hinst, hts _ hsel⟩ ⟨mm_blind, hrecv, hpre⟩ rfl (by
            simp only [List.length_map]
            have : (mR a :: as).length = n := hlen
            have hn' : n = k + 1 := hn
            simp at this
            omega) hL.1.1 (by simp [List.map_append, List.map_reverse]; rfl) (lv_room hsum) hd hcs
          exact mm_back hrun hS hL hsr hk
        · cases hrv
      · cases hrv
    · exact absurd (h0.symm.trans q) (by decide)
    · exact absurd (h0.symm.trans q) (by decide)
  · simp only [mm_rc, Bool.and_eq_true] at hrc
    have h0 := Nat.eq_of_beq_eq_true hrc.1
    rcases hK3 with ⟨q, -⟩ | ⟨-, hn, hstat⟩ | ⟨q, -⟩
    · exact absurd (h0.symm.trans q) (by decide)
    · have hrun := va_runS (l := l) (e := e) (below := below) (meth := meth) (locs := locs) (cells := cn) (slots := sn) (As := av.map (mm_cv g)) (rest := rest.map (mm_cv g)) (g := F0 m pc ls ((av.reverse ++ rest).map (mm_cv g))) hfix hMM ⟨hcb, hts _ hstat⟩ ⟨mm_blind, hpre⟩ rfl (by rw [List.length_map]; exact hlen.trans hn) hL.1.1 (by simp [List.map_append, List.map_reverse]) (lv_room hsum) hd hcs
      exact mm_back hrun hS hL hsr hk
    · exact absurd (h0.symm.trans q) (by decide)
  · simp only [mm_rc, Bool.and_eq_true] at hrc
    have h0 := Nat.eq_of_beq_eq_true hrc.1
    rcases hK3 with ⟨q, -⟩ | ⟨q, -⟩ | ⟨-, hn, rfl, hnm, hinst⟩
    · exact absurd (h0.symm.trans q) (by decide)
    · exact absurd (h0.symm.trans q) (by decide)
    · have hrv : mm_rcv ck.2 av h = true := by
        have := hrc.2
        simpa using this
      unfold mm_rcv at hrv
      split at hrv
      · rename_i a as
        have hrun := va_runI (l := l) (e := e) (below := below) (meth := meth) (locs := locs) (cells := cn) (slots := sn) (As := as.map (mm_cv g)) (rest := rest.map (mm_cv g)) (b := mm_ad g a) (g := F0 m pc ls (((mR a :: as).reverse ++ rest).map (mm_cv g))) hfix hMM ⟨hcb, hnm, hts _ hinst⟩ ⟨mm_blind, hpre⟩ rfl (by
            simp only [List.length_map]
            have : (mR a :: as).length = n := hlen
            have hn' : n = k + 1 := hn
            simp at this
            omega) hL.1.1 (by simp [List.map_append, List.map_reverse]; rfl) (lv_room hsum) hd hcs
        exact mm_back hrun hS hL hsr hk
      · cases hrv
/-- a call of one of the law's own methods -/
def mm_CL (l : Launch) (own : String) (lev i : Nat) (q : CE) : Prop := q.2.2.2.1 = false ∧ ∃ (y : MethodName) (cc : ByteArray) (nL : Nat) (hh : HH) (lev' k : Nat),
  mm_MetL l y cc nL hh lev' q.2.1 q.2.2.1 q.2.2.2.2.2 ∧ lev' + 1 ≤ lev ∧ 8 + (nL + 11) + 40 * lev' ≤ 40 * lev ∧ Jvm.Cond.codeWith y cc nL (some .int) hh ∈ mm_gt ∧ Jvm.Cond.initialized y.cls ∈ mm_gt ∧ (y.cls ≠ "java/lang/invoke/MethodHandle" ∧ y.cls ≠ "java/lang/invoke/VarHandle" ∧ (parseMethodDescriptor y.desc).map (fun d => d.parameters.length) = some k) ∧ Jvm.Cond.methodLink own i y ∈ mm_gt ∧
  q.2.2.2.2.1.1 = 1 ∧ q.1 = k ∧ Jvm.Cond.static y ∈ mm_gt
theorem mm_callL_sound (C : mm_Ctx p R s m args meth c cc own g E) (hSd : mm_Sd g s s.heap) (hDc : mm_Dc s) (hCst : mm_Cst s) {lev : Nat} (hRf : lev ≤ R.frames) (hRl : 40 * lev ≤ R.locals) (hRc : ne_rc E ≤ R.cells) (hRs : ne_rs E ≤ R.slots) {pc i : Nat} {ins : Instr} {n mc ms : Nat} {th : Bool} {ck : Nat × Nat} {T : Tr} (hCB : mm_CL l own lev i (n, mc, ms, th, ck, T)) (hd : decode cc pc = .ok (ins, 3))
    {av rest : List MV} {lv : LV} {h : HP} {cn sn : Nat} {N' : Option MV → HP → Prop} (hkind : (ins = .invokevirtual i ∧ mm_rc 0 ck av h = true) ∨ (ins = .invokestatic i ∧ mm_rc 1 ck av h = true) ∨ (ins = .invokespecial i ∧ mm_rc 2 ck av h = true)) (hlen : av.length = n) (hwd : mm_wd rest ≤ 8) (hcn : cn + mc ≤ ne_rc E) (hsn : sn + ms ≤ ne_rs E) (hT : T av h N' (fun _ _ => False))
    (hk : ∀ (r : Option MV) (h' : HP), N' r h' → mm_K p l e R s m args below meth c Q g (pc + 3) lv (r.toList ++ rest) h' (cn + mc) (sn + ms)) : mm_K p l e R s m args below meth c Q g pc lv (av.reverse ++ rest) h cn sn := by
  obtain ⟨-, y, cy, nL, hh, lev', k, hM, hl1, hl2, hcode, hini, hd2, hlink, hk1, hn, hstat⟩ := hCB
  obtain ⟨hx, hb, hown, hts, hK, hB, hini9, hlt, hft, hro, hgs, hoi, hoiw⟩ := C
  intro H locs ls hH hS hL hs
  have hsr : mm_okS rest := mm_okS_of _ (fun v hv => mm_okS_mem _ hs v (List.mem_append_right _ hv))
  have hsa : mm_okS av := mm_okS_of _ (fun v hv => mm_okS_mem _ hs v (List.mem_append_left _ (List.mem_reverse.mpr hv)))
  have hMM := hM g av h N' hT
  have hpre : ∀ U : State, U.heap = H → s.WarmedH U.vm → mm_PreL g av h (av.map (mm_cv g)).toArray U := fun U hU hW =>
    ⟨⟨⟨rfl, by rw [hU]; exact hH, va_K.moved hW.alike hK, hsa, by rw [hU]; exact mm_Sd_warm hW (mm_Sd_kept hB hSd hS.2.1)⟩, mm_Dc_warm hW hDc⟩, mm_Cst_warm hW hCst⟩
  have hgood : GoodIn mm_gt (Jvm.Cond.codeWith y cy nL (some .int) hh :: mm_gt) := by
    intro w hw
    rcases List.mem_cons.mp hw with rfl | hw
    · exact ⟨hcode, good_of_word (mm_gt_in hcode).2⟩
    · exact ⟨hw, good_of_word (mm_gt_in hw).2⟩
  have hcw : vx_CSW R s args own i y cy nL (some .int) hh (Jvm.Cond.codeWith y cy nL (some .int) hh :: mm_gt) (mm_rm lev' mc ms) mc ms k :=
    ⟨⟨rfl, rfl, Nat.le_trans hl1 hRf, Nat.le_trans hl2 hRl, pay_in hts hgood, List.mem_cons_self⟩, hts _ hcode, hts _ hini, ⟨hd2.1, hd2.2.1⟩, fun sig h => by
      have h2 := hd2.2.2
      rw [h] at h2
      exact (Option.some.inj h2).symm, hts _ hlink, hts _ hstat⟩
  have hfix : CallFix p m c cc c.maxLocals s args mm_gt own := ⟨hx, hb, rfl, hown, hts⟩
  have hsum : ((rest.map (mm_cv g)).map fun v => v.category).sum ≤ 8 := by rw [mm_wdle]; exact hwd
  have hcs : cn + mc ≤ R.cells ∧ sn + ms ≤ R.slots := ⟨Nat.le_trans hcn hRc, Nat.le_trans hsn hRs⟩
  have hk1 : ck.1 = 1 := hk1
  rcases hkind with ⟨rfl, hrc⟩ | ⟨rfl, hrc⟩ | ⟨rfl, hrc⟩
  · simp only [mm_rc, Bool.and_eq_true] at hrc
    exact absurd ((Nat.eq_of_beq_eq_true hrc.1).symm.trans hk1) (by decide)
  · have hrun := vx_runSW (l := l) (e := e) (below := below) (meth := meth) (locs := locs) (cells := cn) (slots := sn) (As := av.map (mm_cv g)) (rest := rest.map (mm_cv g)) (g := F0 m pc ls ((av.reverse ++ rest).map (mm_cv g))) hfix hMM hcw ⟨mm_blindL, hpre⟩ rfl (by rw [List.length_map]; exact hlen.trans hn) hL.1.1 (by simp [List.map_append, List.map_reverse]) (lv_room hsum) hd hcs
    exact mm_back hrun hS hL hsr hk
  · simp only [mm_rc, Bool.and_eq_true] at hrc
    exact absurd ((Nat.eq_of_beq_eq_true hrc.1).symm.trans hk1) (by decide)
end LW
def mm_CA (l : Launch) (own : String) (lev i : Nat) (q : CE) : Prop := mm_CB l own lev i q ∨ mm_CL l own lev i q ∨ mm_CI l own lev i q
theorem mm_ca_nil {l : Launch} {own : String} {lev : Nat} : ∀ (i : Nat) (q : CE), mm_look [] i = some q → mm_CA l own lev i q := fun _ _ h => nomatch h
theorem mm_ca_cons {l : Launch} {own : String} {lev k : Nat} {v : CE} {t : List (Nat × CE)} (h1 : mm_CA l own lev k v) (h2 : ∀ (i : Nat) (q : CE), mm_look t i = some q → mm_CA l own lev i q) : ∀ (i : Nat) (q : CE), mm_look ((k, v) :: t) i = some q → mm_CA l own lev i q := by
  intro i q h
  unfold mm_look at h
  split at h
  · rename_i hk; cases h; rw [← Nat.eq_of_beq_eq_true hk]; exact h1
  · exact h2 i q h
def mm_Yl (y : MethodName) (cc : ByteArray) (nL : Nat) (hh : HH) (k : Nat) : Prop := Jvm.Cond.codeWith y cc nL (some .int) hh ∈ mm_gt ∧ Jvm.Cond.initialized y.cls ∈ mm_gt ∧ (y.cls ≠ "java/lang/invoke/MethodHandle" ∧ y.cls ≠ "java/lang/invoke/VarHandle" ∧ (parseMethodDescriptor y.desc).map (fun d => d.parameters.length) = some k) ∧ Jvm.Cond.static y ∈ mm_gt
theorem mm_cls {l : Launch} {own : String} {lev i n mc ms ci : Nat} {T : Tr} {y : MethodName} {cc : ByteArray} {nL : Nat} {hh : HH} {lev' k : Nat} (hY : mm_Yl y cc nL hh k) (hl : Jvm.Cond.methodLink own i y ∈ mm_gt) (hM : mm_MetL l y cc nL hh lev' mc ms T) (h1 : lev' + 1 ≤ lev) (h2 : 8 + (nL + 11) + 40 * lev' ≤ 40 * lev) (hn : n = k) : mm_CL l own lev i (n, mc, ms, false, (1, ci), T) :=
  ⟨rfl, y, cc, nL, hh, lev', k, hM, h1, h2, hY.1, hY.2.1, hY.2.2.1, hl, rfl, hn, hY.2.2.2⟩
