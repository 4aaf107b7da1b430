/-! a method's contract out of what it does in the small machine -/
def mm_primes (i : Int) : Int := ([2, 3, 5, 7, 11, 13, 17, 19, 23] : List Int).getD i.toNat 0
def mm_strs : List (Nat × String) := [(108, "no such PLACE, or not so many bytes"), (165, "no such count"), (349, "no such ELEMENT"), (183, "no such way, or by 0"), (185, "0 has no LOG"), (351, "no such CHARACTER"), (353, "no such PLACE"), (203, "no such COEFFICIENT"), (223, "no such what"), (357, "not 1 to 30"), (274, "not 1 to 6 ELEMENTS"), (281, "no such s, d or e"), (296, "no such coefficient"), (301, "not -99 to 99"), (355, "no such ELEMENTS"), (318, "no such e, i, j")]
/-- what is told of the heap below the base: the primes, the statics that a throw reads, the texts -/
def mm_Sd (g : SG) (U : State) (H : Heap) : Prop :=
  va_Z RX1 "PRIMES" "[I" (.ref (g.2.2.2 2001)) (mm_A g) U H ∧ va_X (g.2.2.2 2001) 9 (fun j => Int32.ofInt (mm_primes (j : Int))) U H ∧ g.2.2.2 2001 < g.2.2.1 ∧
  vx_Zq Bundle.tN "UNASSIGNED_STACK" Bundle.steD (mm_A g) U H ∧ vx_Zq Bundle.tN "SUPPRESSED_SENTINEL" Bundle.listD (mm_A g) U H ∧ ∀ q ∈ mm_strs, ∃ a, vk_R RX9 q.1 q.2 a U
theorem mm_Sd_warm {g : SG} {s U : State} {H : Heap} (hW : s.WarmedH U.vm) (h : mm_Sd g s H) : mm_Sd g U H :=
  ⟨va_Z.moved hW.alike h.1, va_X.moved hW.alike h.2.1, h.2.2.1, vx_Zq.moved hW.alike h.2.2.2.1, vx_Zq.moved hW.alike h.2.2.2.2.1, fun q hq => by
    obtain ⟨a, ha⟩ := h.2.2.2.2.2 q hq
    exact ⟨a, vk_R.warm hW ha⟩⟩
theorem mm_Sd_same {g : SG} {s U : State} {H : Heap} (hv : U.vm = s.vm) (h : mm_Sd g s H) : mm_Sd g U H := by
  have hA : s.vm.Alike U.vm := by rw [hv]; exact Vm.Alike.refl s.vm
  exact ⟨va_Z.moved hA h.1, va_X.moved hA h.2.1, h.2.2.1, vx_Zq.moved hA h.2.2.2.1, vx_Zq.moved hA h.2.2.2.2.1, fun q hq => by
    obtain ⟨a, ha⟩ := h.2.2.2.2.2 q hq
    exact ⟨a, vk_R.same hv ha⟩⟩
theorem mm_Sd_kept {g : SG} {U : State} {H H1 : Heap} (hB : g.2.2.1 ≤ H.size) (h : mm_Sd g U H) (hq : ∀ a : Nat, a < H.size → ¬ mm_A g a → H1[a]? = H[a]?) : mm_Sd g U H1 :=
  ⟨va_Z.kept h.1 hq, va_X.kept h.2.1 (hq _ (Nat.lt_of_lt_of_le h.2.2.1 hB) (Nat.not_le.mpr h.2.2.1)), h.2.2.1, vx_Zq.kept h.2.2.2.1 hq, vx_Zq.kept h.2.2.2.2.1 hq, h.2.2.2.2.2⟩
def mm_Pre (g : SG) (av : List MV) (h : HP) : Array Value → State → Prop := fun v U => v = (av.map (mm_cv g)).toArray ∧ mm_okH g h U.heap ∧ va_K g.1 vwCl (mm_tys g) U ∧ mm_okS av ∧ mm_Sd g U U.heap
def mm_Post (g : SG) (N : Option MV → HP → Prop) : Array Value → State → Outcome → State → Prop := fun _ st o t => ∃ (r : Option MV) (h' : HP), o = .returned (r.map (mm_cv g)) ∧ N r h' ∧ (∀ v, r = some v → mm_okV v) ∧ mm_okH g h' t.heap ∧ va_F (mm_A g) st t
def mm_rm (lev mc ms : Nat) : Room := { frames := lev, cells := mc, slots := ms, locals := 40 * lev }
abbrev mm_ws (y : MethodName) (cc : ByteArray) (nL : Nat) (ret : Option FieldType) : List Jvm.Cond := .code y cc nL ret :: mm_gt
/-- the method's contract -/
def mm_Met (l : Launch) (y : MethodName) (cc : ByteArray) (nL : Nat) (ret : Option FieldType) (lev mc ms : Nat) (T : Tr) : Prop :=
  ∀ (g : SG) (av : List MV) (h : HP) (N : Option MV → HP → Prop), T av h N (fun _ _ => False) → Met l y (mm_ws y cc nL ret) (mm_rm lev mc ms) (mm_Pre g av h) (mm_Post g N) mc ms (mm_A g)
theorem mm_blind {g : SG} {av : List MV} {h : HP} : FrameBlind (mm_Pre g av h) := fun a U g2 mk q => ⟨q.1, q.2.1, va_K.moved (u := U) (U := U.calling g2 mk a) (Vm.Alike.refl U.vm) q.2.2.1, q.2.2.2.1, mm_Sd_same (s := U) (U := U.calling g2 mk a) rfl q.2.2.2.2⟩
/-- a call: its link, its callee's words and contract, its room -/
def mm_CB (l : Launch) (own : String) (lev i : Nat) (q : CE) : Prop := q.2.2.2.1 = false ∧ ∃ (y : MethodName) (cc : ByteArray) (nL : Nat) (ret : Option FieldType) (lev' k : Nat),
  mm_Met l y cc nL ret lev' q.2.1 q.2.2.1 q.2.2.2.2.2 ∧ lev' + 1 ≤ lev ∧ 8 + (nL + 11) + 40 * lev' ≤ 40 * lev ∧ Jvm.Cond.code y cc nL ret ∈ mm_gt ∧ Jvm.Cond.initialized y.cls ∈ mm_gt ∧ (y.cls ≠ "java/lang/invoke/MethodHandle" ∧ y.cls ≠ "java/lang/invoke/VarHandle" ∧ (parseMethodDescriptor y.desc).map (fun d => d.parameters.length) = some k) ∧ Jvm.Cond.methodLink own i y ∈ mm_gt ∧
  ((q.2.2.2.2.1.1 = 0 ∧ q.1 = k + 1 ∧ (∃ r : vw_C, vwCl[q.2.2.2.2.1.2]? = some r ∧ r.1 = y.cls) ∧ Jvm.Cond.instanceMethod y ∈ mm_gt ∧ Jvm.Cond.selects y.cls y y ∈ mm_gt) ∨
   (q.2.2.2.2.1.1 = 1 ∧ q.1 = k ∧ Jvm.Cond.static y ∈ mm_gt) ∨
   (q.2.2.2.2.1.1 = 2 ∧ q.1 = k + 1 ∧ ret = none ∧ y.name = "<init>" ∧ Jvm.Cond.instanceMethod y ∈ mm_gt))
section MJ
variable {p : Program} {l : Launch} {e : Env} {R : Room} {s : State} {m : MethodId} {args : Array Value} {below : List Frame} {meth : Method} {c : Code} {Q : State → Prop}
variable {cc : ByteArray} {own : String} {g : SG} {E : NE} {N : Option MV → HP → Prop} {X : String → HP → Prop}
/-- goes on behind a call -/
theorem mm_back {pc mc ms cn sn : Nat} {ls : Array Slot} {lv : LV} {st0 : List Value} {rest : List MV} {H : Heap} {locs : List Loc} {N' : Option MV → HP → Prop} {a : Array Value} (hr : va_Run p l e R s m args below meth c H locs cn sn mc ms (F0 m pc ls st0) (rest.map (mm_cv g)) (mm_Post g N' a) (mm_A g)) (hS : va_S (mm_A g) s.heap H locs) (hL : mm_okL g lv ls c.maxLocals) (hs : mm_okS rest)
    (hk : ∀ (r : Option MV) (h' : HP), N' r h' → mm_K p l e R s m args below meth c Q g (pc + 3) lv (r.toList ++ rest) h' (cn + mc) (sn + ms)) : W p l e R s m args below meth c H locs cn sn Q (F0 m pc ls st0) := by
  intro T hT X
  obtain ⟨v, st₀, t, T', L, h0, X', hLf, e1, e2, ⟨r, h', hv, hn, hok, hH', hz, hkp⟩, stp⟩ := hr T hT X
  have hv2 : v = r.map (mm_cv g) := by injection hv
  subst hv2
  rw [h0] at hz hkp
  have hSn : va_S (mm_A g) s.heap T'.heap (locs ++ L) := by
    refine ⟨Nat.le_trans hS.1 (by rw [e1]; exact hz), fun q h1 h2 => ?_, fun q hq => ?_⟩
    · rw [e1, hkp q (Nat.lt_of_lt_of_le h1 hS.1) h2]
      exact hS.2.1 q h1 h2
    · rcases List.mem_append.mp hq with h | h
      · exact hS.2.2 q h
      · exact hLf q h
  have hst : (r.toList ++ rest).map (mm_cv g) = (r.map (mm_cv g)).toList ++ rest.map (mm_cv g) := by
    cases r <;> simp
  have hK2 := hk r h' hn T'.heap (locs ++ L) ls (by rw [e1]; exact hH') hSn hL (by
    cases r with
    | none => exact hs
    | some v => exact ⟨hok v rfl, hs⟩)
  rw [hst] at hK2
  obtain ⟨t2, a1, b1⟩ := hK2 T' rfl X'
  exact ⟨t2, stp t2 a1, b1⟩
theorem mm_goodws {Ts : List Jvm.Cond} (hTs : ∀ w ∈ mm_gt, w ∈ Ts) {y : MethodName} {cy : ByteArray} {nL : Nat} {ret : Option FieldType} (hc : Jvm.Cond.code y cy nL ret ∈ mm_gt) : GoodIn Ts (mm_ws y cy nL ret) := by
  intro w hw
  rcases List.mem_cons.mp hw with rfl | hw
  · exact ⟨hTs _ hc, good_of_word (mm_gt_in hc).2⟩
  · exact ⟨hTs _ hw, good_of_word (mm_gt_in hw).2⟩
theorem mm_call_sound (C : mm_Ctx p R s m args meth c cc own g E) (hSd : mm_Sd g s s.heap) {lev : Nat} (hRf : R.frames = lev) (hRl : R.locals = 40 * lev) (hRc : R.cells = ne_rc E) (hRs : R.slots = ne_rs E) {pc i : Nat} {ins : Instr} {n mc ms : Nat} {ck : Nat × Nat} {T : Tr} (hCB : mm_CB l own lev i (n, mc, ms, false, ck, T)) (hd : decode cc pc = .ok (ins, 3))
    {av rest : List MV} {lv : LV} {h : HP} {cn sn : Nat} {N' : Option MV → HP → Prop} (hkind : (ins = .invokevirtual i ∧ mm_rc 0 ck av h = true) ∨ (ins = .invokestatic i ∧ mm_rc 1 ck av h = true) ∨ (ins = .invokespecial i ∧ mm_rc 2 ck av h = true)) (hlen : av.length = n) (hwd : mm_wd rest ≤ 8) (hcn : cn + mc ≤ ne_rc E) (hsn : sn + ms ≤ ne_rs E) (hT : T av h N' (fun _ _ => False))
    (hk : ∀ (r : Option MV) (h' : HP), N' r h' → mm_K p l e R s m args below meth c Q g (pc + 3) lv (r.toList ++ rest) h' (cn + mc) (sn + ms)) : mm_K p l e R s m args below meth c Q g pc lv (av.reverse ++ rest) h cn sn := by
  obtain ⟨-, y, cy, nL, ret, lev', k, hM, hl1, hl2, hcode, hini, hd2, hlink, hK3⟩ := hCB
  obtain ⟨hx, hb, hown, hts, hK, hB, hini9, hlt, hft, hro, hgs, hoi, hoiw⟩ := C
  intro H locs ls hH hS hL hs
  have hsr : mm_okS rest := mm_okS_of _ (fun v hv => mm_okS_mem _ hs v (List.mem_append_right _ hv))
  have hsa : mm_okS av := mm_okS_of _ (fun v hv => mm_okS_mem _ hs v (List.mem_append_left _ (List.mem_reverse.mpr hv)))
  have hMM := hM g av h N' hT
  have hpre : ∀ U : State, U.heap = H → s.WarmedH U.vm → mm_Pre g av h (av.map (mm_cv g)).toArray U := fun U hU hW =>
    ⟨rfl, by rw [hU]; exact hH, va_K.moved hW.alike hK, hsa, by rw [hU]; exact mm_Sd_warm hW (mm_Sd_kept hB hSd hS.2.1)⟩
  have hroom : (mm_rm lev' mc ms).frames + 1 ≤ R.frames ∧ 8 + (nL + 11) + (mm_rm lev' mc ms).locals ≤ R.locals := ⟨by rw [hRf]; exact hl1, by rw [hRl]; exact hl2⟩
  have hgood := mm_goodws (Ts := mm_gt) (fun _ h => h) hcode
  have hcb := callB_of (Ts := mm_gt) (args := args) (s := s) (R := R) (own := own) (index := i) (rm := mm_rm lev' mc ms) k hts hgood rfl rfl rfl (hts _ hini) (hts _ hlink) hd2 hroom
  have hfix : CallFix p m c cc c.maxLocals s args mm_gt own := ⟨hx, hb, rfl, hown, hts⟩
  have hsum : ((rest.map (mm_cv g)).map fun v => v.category).sum ≤ 8 := by rw [mm_wdle]; exact hwd
  have hcs : cn + mc ≤ R.cells ∧ sn + ms ≤ R.slots := ⟨by rw [hRc]; exact hcn, by rw [hRs]; exact hsn⟩
  rcases hkind with ⟨rfl, hrc⟩ | ⟨rfl, hrc⟩ | ⟨rfl, hrc⟩
  · -- virtual
    simp only [mm_rc, Bool.and_eq_true] at hrc
    have h0 := Nat.eq_of_beq_eq_true hrc.1
    rcases hK3 with ⟨-, hn, ⟨r, hr1, hr2⟩, hinst, hsel⟩ | ⟨q, -⟩ | ⟨q, -⟩
    · have hrv : mm_rcv ck.2 av h = true := by
        have := hrc.2
        simpa using this
      unfold mm_rcv at hrv
      split at hrv
      · rename_i a as
        split at hrv
        · rename_i cj fs hg
          have ec := Nat.eq_of_beq_eq_true hrv
          have hr3 : vwCl[cj]? = some r := by rw [← ec]; exact hr1
          have hrecv := va_recv hK hH.1 hr3 (mm_wl_get g hg)
          rw [hr2] at hrecv
          have hrun := va_runV (l := l) (e := e) (below := below) (meth := meth) (locs := locs) (cells := cn) (slots := sn) (As := as.map (mm_cv g)) (rest := rest.map (mm_cv g)) (b := mm_ad g a) (g := F0 m pc ls (((mR a :: as).reverse ++ rest).map (mm_cv g))) hfix hMM ⟨hcb, hts _ hinst, hts _ hsel⟩ ⟨mm_blind, hrecv, hpre⟩ rfl (by
            simp only [List.length_map]
            have : (mR a :: as).length = n := hlen
            have hn' : n = k + 1 := hn
            simp at this
            omega) hL.1.1 (by simp [List.map_append, List.map_reverse]; rfl) (lv_room hsum) hd hcs
          exact mm_back hrun hS hL hsr hk
        · cases hrv
      · cases hrv
    · exact absurd (h0.symm.trans q) (by decide)
    · exact absurd (h0.symm.trans q) (by decide)
  · simp only [mm_rc, Bool.and_eq_true] at hrc
    have h0 := Nat.eq_of_beq_eq_true hrc.1
    rcases hK3 with ⟨q, -⟩ | ⟨-, hn, hstat⟩ | ⟨q, -⟩
    · exact absurd (h0.symm.trans q) (by decide)
    · have hrun := va_runS (l := l) (e := e) (below := below) (meth := meth) (locs := locs) (cells := cn) (slots := sn) (As := av.map (mm_cv g)) (rest := rest.map (mm_cv g)) (g := F0 m pc ls ((av.reverse ++ rest).map (mm_cv g))) hfix hMM ⟨hcb, hts _ hstat⟩ ⟨mm_blind, hpre⟩ rfl (by rw [List.length_map]; exact hlen.trans hn) hL.1.1 (by simp [List.map_append, List.map_reverse]) (lv_room hsum) hd hcs
      exact mm_back hrun hS hL hsr hk
    · exact absurd (h0.symm.trans q) (by decide)
  · simp only [mm_rc, Bool.and_eq_true] at hrc
    have h0 := Nat.eq_of_beq_eq_true hrc.1
    rcases hK3 with ⟨q, -⟩ | ⟨q, -⟩ | ⟨-, hn, rfl, hnm, hinst⟩
    · exact absurd (h0.symm.trans q) (by decide)
    · exact absurd (h0.symm.trans q) (by decide)
    · have hrv : mm_rcv ck.2 av h = true := by
        have := hrc.2
        simpa using this
      unfold mm_rcv at hrv
      split at hrv
      · rename_i a as
        have hrun := va_runI (l := l) (e := e) (below := below) (meth := meth) (locs := locs) (cells := cn) (slots := sn) (As := as.map (mm_cv g)) (rest := rest.map (mm_cv g)) (b := mm_ad g a) (g := F0 m pc ls (((mR a :: as).reverse ++ rest).map (mm_cv g))) hfix hMM ⟨hcb, hnm, hts _ hinst⟩ ⟨mm_blind, hpre⟩ rfl (by
            simp only [List.length_map]
            have : (mR a :: as).length = n := hlen
            have hn' : n = k + 1 := hn
            simp at this
            omega) hL.1.1 (by simp [List.map_append, List.map_reverse]; rfl) (lv_room hsum) hd hcs
        exact mm_back hrun hS hL hsr hk
      · cases hrv
end MJ
