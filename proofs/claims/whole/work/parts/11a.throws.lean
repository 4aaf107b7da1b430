/-! methods that may throw -/
def mm_XC (g : SG) (X : String → HP → Prop) : String → State → State → Prop := fun E st t => ∃ h' : HP, X E h' ∧ mm_okH g h' t.heap ∧ va_F (mm_A g) st t
def mm_dcl : List MethodName := [Bundle.initS "java/lang/RuntimeException", Bundle.initS "java/lang/Exception", Bundle.initS Bundle.tN]
def mm_Dc (U : State) : Prop := ∀ x ∈ mm_dcl, va_Nw (.declares x) U
def mm_PreX (g : SG) (av : List MV) (h : HP) : Array Value → State → Prop := fun v U => mm_Pre g av h v U ∧ mm_Dc U
theorem mm_Dc_warm {s U : State} (hW : s.WarmedH U.vm) (h : mm_Dc s) : mm_Dc U := fun x hx => va_Nw.warmD hW (h x hx)
theorem mm_blindX {g : SG} {av : List MV} {h : HP} : FrameBlind (mm_PreX g av h) := fun a U g2 mk q => ⟨mm_blind a U g2 mk q.1, fun x hx => va_tabs (c := .declares x) (u := U) (U := U.calling g2 mk a) rfl rfl (q.2 x hx)⟩
def mm_MetX (l : Launch) (y : MethodName) (cc : ByteArray) (nL : Nat) (ret : Option FieldType) (lev mc ms : Nat) (T : Tr) : Prop :=
  ∀ (g : SG) (av : List MV) (h : HP) (N : Option MV → HP → Prop) (X : String → HP → Prop), T av h N X → vx_Met l y (mm_ws y cc nL ret) (mm_rm lev mc ms) (mm_PreX g av h) (mm_Post g N) (mm_XC g X) mc ms (mm_A g)
/-- an IllegalArgumentException, a NoSuchElementException -/
def xI : String := "java/lang/IllegalArgumentException"
def xN : String := "java/util/NoSuchElementException"
def xUp : List String := ["java/lang/RuntimeException", "java/lang/Exception"]
def xRx (ix : Nat) : ByteArray := ⟨#[0x2a, 0x2b, 0xb7, 0x00, ix.toUInt8, 0xb1]⟩
abbrev xWs (ik ic ix : Nat) (en : String) : List Jvm.Cond := Jvm.Cond.classLink RX9 ik en :: Jvm.Cond.initialized en :: (mm_xat RX9 ic en ix (xRx ix) xUp).filter vx_no
set_option maxRecDepth 100000 in
theorem mm_xwI : ∀ w ∈ xWs 106 110 7 xI, w ∈ mm_gt ∨ ∃ x ∈ mm_dcl, w = .declares x := by
  have h : (xWs 106 110 7 xI).all (fun w => (decide (w ∈ lw_tbl) && goodWord w) || mm_dcl.any (fun x => decide (w = .declares x))) = true := by decide +kernel
  intro w hw
  have h1 := List.all_eq_true.mp h w hw
  simp only [Bool.or_eq_true, Bool.and_eq_true, decide_eq_true_eq, List.any_eq_true] at h1
  exact h1.imp (fun h => List.mem_filter.mpr h) (fun h => h)
set_option maxRecDepth 100000 in
theorem mm_xwN : ∀ w ∈ xWs 163 167 13 xN, w ∈ mm_gt ∨ ∃ x ∈ mm_dcl, w = .declares x := by
  have h : (xWs 163 167 13 xN).all (fun w => (decide (w ∈ lw_tbl) && goodWord w) || mm_dcl.any (fun x => decide (w = .declares x))) = true := by decide +kernel
  intro w hw
  have h1 := List.all_eq_true.mp h w hw
  simp only [Bool.or_eq_true, Bool.and_eq_true, decide_eq_true_eq, List.any_eq_true] at h1
  exact h1.imp (fun h => List.mem_filter.mpr h) (fun h => h)
theorem mm_gt_ot {w : Jvm.Cond} (h : w ∈ mm_gt) : vx_ot w = true := by
  unfold vx_ot
  rw [(mm_gt_in h).2, Bool.or_true]
theorem mm_ot_d {w : Jvm.Cond} (h : w ∈ mm_gt ∨ ∃ x ∈ mm_dcl, w = .declares x) : vx_ot w = true := by
  rcases h with h | ⟨x, -, rfl⟩
  · exact mm_gt_ot h
  · rfl
/-- a throw's site: new; dup; ldc; invokespecial; athrow -/
def mm_txk (ik ic : Nat) (en : String) : Bool := (Nat.beq ik 106 && (Nat.beq ic 110 && decide (en = xI))) || (Nat.beq ik 163 && (Nat.beq ic 167 && decide (en = xN)))
def mm_txs (is : Nat) : Bool := mm_strs.any (fun q => Nat.beq q.1 is)
def mm_txok (cd : MC) (q : Nat × String) : Bool := match mm_at cd q.1 with
  | (p0, .new ik, l0) :: (p1, .dup, l1) :: (p2, .ldc is, l2) :: (p3, .invokespecial ic, l3) :: (p4, .athrow, l4) :: _ => Nat.beq p0 q.1 && (Nat.beq p1 (q.1 + 3) && (Nat.beq p2 (q.1 + 4) && (Nat.beq p3 (q.1 + 6) && (Nat.beq p4 (q.1 + 9) && (Nat.beq l0 3 && (Nat.beq l1 1 && (Nat.beq l2 2 && (Nat.beq l3 3 && (Nat.beq l4 1 && (mm_txk ik ic q.2 && mm_txs is))))))))))
  | (p0, .new ik, l0) :: (p1, .dup, l1) :: (p2, .ldc_w is, l2) :: (p3, .invokespecial ic, l3) :: (p4, .athrow, l4) :: _ => Nat.beq p0 q.1 && (Nat.beq p1 (q.1 + 3) && (Nat.beq p2 (q.1 + 4) && (Nat.beq p3 (q.1 + 7) && (Nat.beq p4 (q.1 + 10) && (Nat.beq l0 3 && (Nat.beq l1 1 && (Nat.beq l2 3 && (Nat.beq l3 3 && (Nat.beq l4 1 && (mm_txk ik ic q.2 && mm_txs is))))))))))
  | _ => false
theorem mm_txok_sound {cd : MC} {cc : ByteArray} (hdec : ∀ q ∈ cd, decode cc q.1 = .ok (q.2.1, q.2.2)) {pc : Nat} {en : String} (h : mm_txok cd (pc, en) = true) : ∃ ik ic is : Nat, mm_txk ik ic en = true ∧ mm_txs is = true ∧ decode cc pc = .ok (.new ik, 3) ∧ decode cc (pc + 3) = .ok (.dup, 1) ∧
    ((decode cc (pc + 4) = .ok (.ldc is, 2) ∧ decode cc (pc + 6) = .ok (.invokespecial ic, 3) ∧ decode cc (pc + 9) = .ok (.athrow, 1)) ∨ (decode cc (pc + 4) = .ok (.ldc_w is, 3) ∧ decode cc (pc + 7) = .ok (.invokespecial ic, 3) ∧ decode cc (pc + 10) = .ok (.athrow, 1))) := by
  have hm : ∀ q ∈ mm_at cd pc, decode cc q.1 = .ok (q.2.1, q.2.2) := fun q hq => hdec q (mm_at_mem q hq)
  unfold mm_txok at h
  simp only at h
  split at h
  · rename_i p0 ik l0 p1 l1 p2 is l2 p3 ic l3 p4 l4 tl he
    rw [he] at hm
    simp only [Bool.and_eq_true, Nat.beq_eq] at h
    obtain ⟨rfl, rfl, rfl, rfl, rfl, rfl, rfl, rfl, rfl, rfl, h1, h2⟩ := h
    exact ⟨ik, ic, is, h1, h2, hm (_, _, _) (by simp), hm (_, _, _) (by simp), Or.inl ⟨hm (_, _, _) (by simp), hm (_, _, _) (by simp), hm (_, _, _) (by simp)⟩⟩
  · rename_i p0 ik l0 p1 l1 p2 is l2 p3 ic l3 p4 l4 tl he
    rw [he] at hm
    simp only [Bool.and_eq_true, Nat.beq_eq] at h
    obtain ⟨rfl, rfl, rfl, rfl, rfl, rfl, rfl, rfl, rfl, rfl, h1, h2⟩ := h
    exact ⟨ik, ic, is, h1, h2, hm (_, _, _) (by simp), hm (_, _, _) (by simp), Or.inr ⟨hm (_, _, _) (by simp), hm (_, _, _) (by simp), hm (_, _, _) (by simp)⟩⟩
  · cases h
/-- cells made behind it leave the world as it was -/
theorem mm_okH_ext {g : SG} {h : HP} {H H1 : Heap} (hH : mm_okH g h H) (hz : H.size ≤ H1.size) (hq : ∀ q : Nat, q < H.size → H1[q]? = H[q]?) : mm_okH g (none, h.2) H1 := by
  obtain ⟨a1, a2, a3, a4, a5, a6, -⟩ := hH
  refine ⟨?_, a2, a3, a4, a5, Nat.le_trans a6 hz, fun t ht => nomatch ht⟩
  exact va_P.kept (ws := mm_wl g h) a1 (fun k q hk => hq q.1 (va_at.lt (a1 k q hk)))
section MX0
variable {p : Program} {l : Launch} {e : Env} {R : Room} {s : State} {m : MethodId} {args : Array Value} {below : List Frame} {meth : Method} {c : Code} {H : Heap} {locs : List Loc} {cells slots : Nat} {ls : Array Slot} {rest : List Value}
variable {Qc : Array Value → State → Outcome → State → Prop} {XC : String → State → State → Prop}
theorem mm_throwX {cc : ByteArray} {pc k : Nat} (hexec : p.tables.exec = Jvm.exec) (hb : c.code = cc) (hl : l.stackTraces = false) {own cls text : String} {names : List String} {ik is ic ix mc ms sa : Nat} {rx : ByteArray} {A : Nat → Prop} {free : Addr → Prop}
    (x0 : decode rx 0 = .ok (.aload_n 0, 1)) (x1 : decode rx 1 = .ok (.aload_n 1, 1)) (x2 : decode rx 2 = .ok (.invokespecial ix, 3)) (x5 : decode rx 5 = .ok (.return_, 1))
    (hown : s.vm.findClass own = some m.cls) (hcls : Bundle.fit cls = true) (hnames : ∀ n ∈ names, Bundle.fit n = true)
    (hk : (Jvm.Cond.classLink own ik cls).before args s = true) (hini : (Jvm.Cond.initialized cls).before args s = true) (hstr : vk_R own is text sa s) (hat : ∀ w ∈ (mm_xat own ic cls ix rx names).filter vx_no, w.before args s = true)
    (hgood : ∀ w ∈ Jvm.Cond.classLink own ik cls :: Jvm.Cond.initialized cls :: (mm_xat own ic cls ix rx names).filter vx_no, vx_ot w = true)
    (hU : vx_Zq Bundle.tN "UNASSIGNED_STACK" Bundle.steD A s s.heap) (hN : vx_Zq Bundle.tN "SUPPRESSED_SENTINEL" Bundle.listD A s s.heap) (hS : va_S A s.heap H locs) (hsize : ls.size = c.maxLocals)
    (d0 : decode cc pc = .ok (.new ik, 3)) (d3 : decode cc (pc + 3) = .ok (.dup, 1)) (d4 : (decode cc (pc + 4) = .ok (.ldc is, 2) ∧ k = 2) ∨ (decode cc (pc + 4) = .ok (.ldc_w is, 3) ∧ k = 3)) (d6 : decode cc (pc + 4 + k) = .ok (.invokespecial ic, 3)) (d9 : decode cc (pc + 4 + k + 3) = .ok (.athrow, 1))
    (hex : ∀ x ∈ c.exceptionTable.toList, False)
    (hRframes : names.length + 3 < R.frames) (hRlocals : (rest.map fun v => v.category).sum + (13 * (names.length + 1) + 43) ≤ R.locals) (hRcells : cells + 1 ≤ R.cells) (hRslots : slots + 6 ≤ R.slots) (hlocks : meth.locks = false)
    (hx : ∀ t : State, s.vm.Alike t.vm → H.size ≤ t.heap.size → (∀ q : Nat, q < H.size → t.heap[q]? = H[q]?) → XC cls s t)
    (hf : ∀ z ∈ locs, free z.base) (hc : cells + 1 ≤ mc) (hs : slots + 6 ≤ ms) :
    W p l e R s m args below meth c H locs cells slots (vx_MQ below Qc XC args s mc ms free) (F0 m pc ls rest) := by
  intro T hT X
  have htr : e.platform.stackTraces = false := (show e.platform.stackTraces = l.stackTraces by rw [X.admits.platform]).trans hl
  have Y := vx_rebase X (R' := { frames := R.frames, locals := R.locals, cells := 1, slots := 6 }) (Nat.le_refl _) (Nat.le_refl _) hRcells hRslots
  obtain ⟨s', hA⟩ : ∃ z, z = (T.setVm s.vm).setFrames (.invoking m args :: below) := ⟨_, rfl⟩
  rw [← hA] at Y
  have hvm : s'.vm = s.vm := by rw [hA]; rfl
  have hhp : s'.heap = H := by rw [hA]; exact hT
  have hW0 : s.WarmedH s'.vm := by rw [hvm]; exact State.WarmedH.refl s
  have hk' : (Jvm.Cond.classLink own ik cls).before args s' = true := vx_ot_at hW0 hvm.symm (hgood _ List.mem_cons_self) hk
  have hini' : (Jvm.Cond.initialized cls).before args s' = true := vx_ot_at hW0 hvm.symm (hgood _ (List.mem_cons_of_mem _ List.mem_cons_self)) hini
  have hU' : vx_Zq Bundle.tN "UNASSIGNED_STACK" Bundle.steD A s' s'.heap := by rw [hhp]; exact vx_Zq.moved hW0.alike (hU.kept hS.2.1)
  have hN' : vx_Zq Bundle.tN "SUPPRESSED_SENTINEL" Bundle.listD A s' s'.heap := by rw [hhp]; exact vx_Zq.moved hW0.alike (hN.kept hS.2.1)
  have h : ∀ w ∈ mm_xat own ic cls ix rx names, w.before args s' = true := vx_own (fun w hw => vx_ot_at hW0 hvm.symm (hgood w (List.mem_cons_of_mem _ (List.mem_cons_of_mem _ hw))) (hat w hw)) (vx_isRefq hU'.1) (vx_isRefq hN'.1) hU'.2.word hN'.2.word
  have hown' : s'.vm.findClass own = some m.cls := by rw [hvm]; exact hown
  have hins : (Jvm.Cond.instantiable cls 6).before args s' = true := h _ (by simp [mm_xat])
  obtain ⟨vm₁, cX, kX, hfX, hkX, -, -, X₁, st1⟩ := Y.newCold hexec (own := own) (C := cls) (index := ik) (n := 6) hown' hk' hins hini' (g := F0 m pc ls rest) rfl (by rw [hb]; exact d0) (Nat.le_refl _) (Nat.le_refl _)
  generalize hT1 : (T.setVm vm₁).pushCell { cls := cX, slots := kX.instanceTypes.map defaultValue, vm := .none } = T1 at X₁ st1
  have hcat : (Value.ref T.heap.size).category = 1 := rfl
  have hcellA : T1.heap[T.heap.size]? = some (freshCell cX kX) := by rw [← hT1]; exact State.heap_pushCell_size _ _
  have d3' : decode c.code (pc + 3) = .ok (.dup, 1) := by rw [hb]; exact d3
  have hstr' : vk_R own is text sa s' := vk_R.warm hW0 hstr
  obtain ⟨U, hsteps, hrun, hend, hW, hsame, ce, hce, hv, hO⟩ := mm_ctorX X₁ hexec htr (own := own) (cls := cls) (names := names) (ic := ic) x0 x1 x2 x5 hown' hcls hnames h (fun x hx => nomatch hx) hfX hkX hcellA (by rw [hhp, hT]; exact Nat.le_refl _) (msg := .ref sa) rfl
    (g := { method := m, pc := pc + 4 + k, locals := ls, stack := .ref sa :: .ref T.heap.size :: .ref T.heap.size :: rest, locked := none }) rfl hsize rfl rfl (rest := rest) rfl
    (by rw [hb]; exact d6) (by rw [hb]; exact d9) (fun x hx => (hex x hx).elim) hRframes (by
      have hm : (JFrame.monitorRoom { method := m, pc := pc + 4 + k, locals := ls, stack := .ref sa :: .ref T.heap.size :: .ref T.heap.size :: rest, locked := none }) = 0 := rfl
      simp only [List.map_cons, List.sum_cons, hcat, hm]; omega) hlocks
  obtain ⟨f1, f2⟩ := vx_frame hsame
  rw [hhp] at f1 f2
  have hWs : s.WarmedH U.vm := State.WarmedH.trans hW0 hW
  have hcl : s.vm.findClass cls = some ce.cls := by
    rw [hvm] at hO
    exact hO
  have hall : s.sameButNew ({ U with vm := s.vm } : State) locs mc ms := by
    subst hA
    obtain ⟨e1, e2⟩ := hsame
    rw [State.setFrames_setFrames] at e1
    have h2 : (T.setVm s.vm).sameButNew ({ U with vm := s.vm } : State) [] (0 + 1) (0 + 6) := ⟨e1, e2⟩
    have h3 := X.same.trans h2
    rw [List.append_nil] at h3
    exact h3.mono hc hs
  refine ⟨U, ?_, .threw T.heap.size, hrun, hend, Or.inr ⟨T.heap.size, rfl, cls, ce, locs, hx U hWs.alike f1 (fun q hq => f2 q hq (fun z hz => nomatch hz)), hce, hv, hcl, hWs, hall, hf⟩⟩
  refine st1 _ ?_
  show Steps p.tables e below (T1.setTop { method := m, pc := pc + 3, locals := ls, stack := .ref T.heap.size :: rest, locked := none }) _
  jvm_step X₁.here [X₁.here.top, hexec, d3', Value.category]
  rcases d4 with ⟨d4, rfl⟩ | ⟨d4, rfl⟩
  · exact X₁.ldcString hexec (own := own) (text := text) (index := is) (a := sa) hown' hstr'.1 hstr'.2 (g := { method := m, pc := pc + 4, locals := ls, stack := .ref T.heap.size :: .ref T.heap.size :: rest, locked := none }) rfl (by rw [hb]; exact d4) _ hsteps
  · exact X₁.ldcStringW hexec (own := own) (text := text) (index := is) (a := sa) hown' hstr'.1 hstr'.2 (g := { method := m, pc := pc + 4, locals := ls, stack := .ref T.heap.size :: .ref T.heap.size :: rest, locked := none }) rfl (by rw [hb]; exact d4) _ hsteps
end MX0
section MX
variable {p : Program} {l : Launch} {e : Env} {R : Room} {s : State} {m : MethodId} {args : Array Value} {below : List Frame} {meth : Method} {c : Code} {Qc : Array Value → State → Outcome → State → Prop}
variable {cc : ByteArray} {g : SG} {E : NE} {X : String → HP → Prop}
theorem mm_throw_sound (hl : l.stackTraces = false) (C : mm_Ctx p R s m args meth c cc RX9 g E) (hSd : mm_Sd g s s.heap) (hDc : mm_Dc s) (hRf : 6 ≤ R.frames) (hRl : 90 ≤ R.locals) (hRc : R.cells = ne_rc E) (hRs : R.slots = ne_rs E) (hlocks : meth.locks = false) (hex : ∀ x ∈ c.exceptionTable.toList, False)
    {pc ik ic is : Nat} {en : String} (hk : mm_txk ik ic en = true) (hs : mm_txs is = true) (d0 : decode cc pc = .ok (.new ik, 3)) (d3 : decode cc (pc + 3) = .ok (.dup, 1))
    (d4 : (decode cc (pc + 4) = .ok (.ldc is, 2) ∧ decode cc (pc + 6) = .ok (.invokespecial ic, 3) ∧ decode cc (pc + 9) = .ok (.athrow, 1)) ∨ (decode cc (pc + 4) = .ok (.ldc_w is, 3) ∧ decode cc (pc + 7) = .ok (.invokespecial ic, 3) ∧ decode cc (pc + 10) = .ok (.athrow, 1)))
    {lv : LV} {st : List MV} {h : HP} {cn sn : Nat} (hwd : mm_wd st ≤ 8) (hcn : cn + 1 ≤ ne_rc E) (hsn : sn + 6 ≤ ne_rs E) (hX : X en (none, h.2)) : mm_K p l e R s m args below meth c (vx_MQ below Qc (mm_XC g X) args s (ne_rc E) (ne_rs E) (mm_A g)) g pc lv st h cn sn := by
  obtain ⟨hx, hb, hown, hts, hK, hB, -⟩ := C
  intro H locs ls hH hS hL hst
  obtain ⟨q, hq, hqs⟩ := List.any_eq_true.mp hs
  have hqs := Nat.eq_of_beq_eq_true hqs
  obtain ⟨sa, hstr⟩ := hSd.2.2.2.2.2 q hq
  rw [hqs] at hstr
  have hsum : ((st.map (mm_cv g)).map fun v => v.category).sum ≤ 8 := by rw [mm_wdle]; exact hwd
  have hxx : ∀ t : State, s.vm.Alike t.vm → H.size ≤ t.heap.size → (∀ q : Nat, q < H.size → t.heap[q]? = H[q]?) → mm_XC g X en s t := by
    intro t _ hz hq
    refine ⟨(none, h.2), hX, mm_okH_ext hH hz hq, Nat.le_trans hS.1 hz, fun q h1 h2 => ?_⟩
    rw [hq q (Nat.lt_of_lt_of_le h1 hS.1)]
    exact hS.2.1 q h1 h2
  have key : ∀ (ix : Nat) (hw : ∀ w ∈ xWs ik ic ix en, w ∈ mm_gt ∨ ∃ x ∈ mm_dcl, w = .declares x) (hf : Bundle.fit en = true) (x0 : decode (xRx ix) 0 = .ok (.aload_n 0, 1)) (x1 : decode (xRx ix) 1 = .ok (.aload_n 1, 1)) (x2 : decode (xRx ix) 2 = .ok (.invokespecial ix, 3)) (x5 : decode (xRx ix) 5 = .ok (.return_, 1)), W p l e R s m args below meth c H locs cn sn (vx_MQ below Qc (mm_XC g X) args s (ne_rc E) (ne_rs E) (mm_A g)) (F0 m pc ls (st.map (mm_cv g))) := by
    intro ix hw hf x0 x1 x2 x5
    have hn : ∀ n ∈ xUp, Bundle.fit n = true := by decide
    have hts' : ∀ w : Jvm.Cond, (w ∈ mm_gt ∨ ∃ x ∈ mm_dcl, w = .declares x) → w.before args s = true := by
      intro w h
      rcases h with h | ⟨x, hx, rfl⟩
      · exact hts w h
      · exact va_any rfl (hDc x hx)
    have go : ∀ (k : Nat) (d4 : (decode cc (pc + 4) = .ok (.ldc is, 2) ∧ k = 2) ∨ (decode cc (pc + 4) = .ok (.ldc_w is, 3) ∧ k = 3)) (d6 : decode cc (pc + 4 + k) = .ok (.invokespecial ic, 3)) (d9 : decode cc (pc + 4 + k + 3) = .ok (.athrow, 1)), W p l e R s m args below meth c H locs cn sn (vx_MQ below Qc (mm_XC g X) args s (ne_rc E) (ne_rs E) (mm_A g)) (F0 m pc ls (st.map (mm_cv g))) := fun k d4 d6 d9 =>
      mm_throwX hx hb hl x0 x1 x2 x5 hown hf hn (hts' _ (hw _ List.mem_cons_self)) (hts' _ (hw _ (List.mem_cons_of_mem _ List.mem_cons_self))) hstr (fun w h => hts' _ (hw w (List.mem_cons_of_mem _ (List.mem_cons_of_mem _ h)))) (fun w h => mm_ot_d (hw w h)) hSd.2.2.2.1 hSd.2.2.2.2.1 hS hL.1.1 d0 d3 d4 d6 d9 hex (by show 2 + 3 < R.frames; omega) (by show _ + (13 * (2 + 1) + 43) ≤ R.locals; omega) (by rw [hRc]; exact hcn) (by rw [hRs]; exact hsn) hlocks hxx hS.2.2 hcn hsn
    rcases d4 with ⟨d4, d6, d9⟩ | ⟨d4, d6, d9⟩
    · exact go 2 (Or.inl ⟨d4, rfl⟩) d6 d9
    · exact go 3 (Or.inr ⟨d4, rfl⟩) d6 d9
  unfold mm_txk at hk
  simp only [Bool.or_eq_true, Bool.and_eq_true, decide_eq_true_eq, Nat.beq_eq] at hk
  rcases hk with ⟨rfl, rfl, rfl⟩ | ⟨rfl, rfl, rfl⟩
  · exact key 7 mm_xwI (by decide) (by decide +kernel) (by decide +kernel) (by decide +kernel) (by decide +kernel)
  · exact key 13 mm_xwN (by decide) (by decide +kernel) (by decide +kernel) (by decide +kernel) (by decide +kernel)
end MX
/-- a call that may throw -/
def mm_CX (l : Launch) (own : String) (lev i : Nat) (q : CE) : Prop := q.2.2.2.1 = true ∧ ∃ (y : MethodName) (cc : ByteArray) (nL : Nat) (ret : Option FieldType) (lev' k : Nat),
  mm_MetX l y cc nL ret lev' q.2.1 q.2.2.1 q.2.2.2.2.2 ∧ lev' + 1 ≤ lev ∧ 8 + (nL + 11) + 40 * lev' ≤ 40 * lev ∧ Jvm.Cond.code y cc nL ret ∈ mm_gt ∧ Jvm.Cond.initialized y.cls ∈ mm_gt ∧ (y.cls ≠ "java/lang/invoke/MethodHandle" ∧ y.cls ≠ "java/lang/invoke/VarHandle" ∧ (parseMethodDescriptor y.desc).map (fun d => d.parameters.length) = some k) ∧ Jvm.Cond.methodLink own i y ∈ mm_gt ∧
  (q.2.2.2.2.1.1 = 0 ∧ q.1 = k + 1 ∧ (∃ r : vw_C, vwCl[q.2.2.2.2.1.2]? = some r ∧ r.1 = y.cls) ∧ Jvm.Cond.instanceMethod y ∈ mm_gt ∧ Jvm.Cond.selects y.cls y y ∈ mm_gt)
section MX2
variable {p : Program} {l : Launch} {e : Env} {R : Room} {s : State} {m : MethodId} {args : Array Value} {below : List Frame} {meth : Method} {c : Code} {Qc : Array Value → State → Outcome → State → Prop}
variable {cc : ByteArray} {own : String} {g : SG} {E : NE} {X : String → HP → Prop}
theorem mm_backX {pc mc ms cn sn : Nat} {ls : Array Slot} {lv : LV} {st0 : List Value} {rest : List MV} {H : Heap} {locs : List Loc} {N' : Option MV → HP → Prop} {a : Array Value} (hr : vx_Run p l e R s m args below meth c H locs cn sn mc ms (F0 m pc ls st0) (rest.map (mm_cv g)) (mm_Post g N' a) (mm_XC g X) (mm_A g)) (hS : va_S (mm_A g) s.heap H locs) (hL : mm_okL g lv ls c.maxLocals) (hs : mm_okS rest)
    (hlocks : meth.locks = false) (hex : ∀ x ∈ c.exceptionTable.toList, False) (hcn : cn + mc ≤ ne_rc E) (hsn : sn + ms ≤ ne_rs E)
    (hk : ∀ (r : Option MV) (h' : HP), N' r h' → mm_K p l e R s m args below meth c (vx_MQ below Qc (mm_XC g X) args s (ne_rc E) (ne_rs E) (mm_A g)) g (pc + 3) lv (r.toList ++ rest) h' (cn + mc) (sn + ms)) : W p l e R s m args below meth c H locs cn sn (vx_MQ below Qc (mm_XC g X) args s (ne_rc E) (ne_rs E) (mm_A g)) (F0 m pc ls st0) := by
  intro T hT Xs
  rcases hr T hT Xs with ⟨v, st₀, t, T', L, h0, X', hLf, e1, e2, ⟨r, h', hv, hn, hok, hH', hz, hkp⟩, stp⟩ | ⟨q, st₀, t, T', L, en, ce, h0, X', hLf, e1, e2, ⟨h', hx, hH', hz, hkp⟩, hce, hcv, hcl, stp⟩
  · have hv2 : v = r.map (mm_cv g) := by injection hv
    subst hv2
    rw [h0] at hz hkp
    have hSn : va_S (mm_A g) s.heap T'.heap (locs ++ L) := by
      refine ⟨Nat.le_trans hS.1 (by rw [e1]; exact hz), fun q h1 h2 => ?_, fun q hq => ?_⟩
      · rw [e1, hkp q (Nat.lt_of_lt_of_le h1 hS.1) h2]
        exact hS.2.1 q h1 h2
      · rcases List.mem_append.mp hq with h | h
        · exact hS.2.2 q h
        · exact hLf q h
    have hst : (r.toList ++ rest).map (mm_cv g) = (r.map (mm_cv g)).toList ++ rest.map (mm_cv g) := by
      cases r <;> simp
    have hK2 := hk r h' hn T'.heap (locs ++ L) ls (by rw [e1]; exact hH') hSn hL (by
      cases r with
      | none => exact hs
      | some v => exact ⟨hok v rfl, hs⟩)
    rw [hst] at hK2
    obtain ⟨t2, a1, b1⟩ := hK2 T' rfl X'
    exact ⟨t2, stp t2 a1, b1⟩
  · rw [h0] at hz hkp
    have hF : ∀ U : State, U.heap = T'.heap → mm_XC g X en s U := by
      intro U hU
      refine ⟨h', hx, by rw [hU, e1]; exact hH', ?_, fun z h1 h2 => ?_⟩
      · rw [hU, e1]
        exact Nat.le_trans hS.1 hz
      · rw [hU, e1, hkp z (Nat.lt_of_lt_of_le h1 hS.1) h2]
        exact hS.2.1 z h1 h2
    have hW : vx_W p l e R s m args below meth c T'.heap (locs ++ L) (cn + mc) (sn + ms) (vx_MQ below Qc (mm_XC g X) args s (ne_rc E) (ne_rs E) (mm_A g)) (F0 m pc ls (rest.map (mm_cv g))) q :=
      vx_out (E := en) (ce := ce) (fun x hx => (hex x hx).elim) hlocks (by rw [e1]; exact hce) hcv hcl (fun U hU _ => hF U hU) (fun z hz => by
        rcases List.mem_append.mp hz with h | h
        · exact hS.2.2 z h
        · exact hLf z h) hcn hsn
    obtain ⟨t2, a1, b1⟩ := hW T' rfl X'
    exact ⟨t2, stp.trans a1, b1⟩
theorem mm_callX_sound (C : mm_Ctx p R s m args meth c cc own g E) (hSd : mm_Sd g s s.heap) (hDc : mm_Dc s) {lev : Nat} (hRf : R.frames = lev) (hRl : R.locals = 40 * lev) (hRc : R.cells = ne_rc E) (hRs : R.slots = ne_rs E) (hlocks : meth.locks = false) (hex : ∀ x ∈ c.exceptionTable.toList, False) {pc i : Nat} {ins : Instr} {n mc ms : Nat} {ck : Nat × Nat} {T : Tr} (hCB : mm_CX l own lev i (n, mc, ms, true, ck, T)) (hd : decode cc pc = .ok (ins, 3))
    {av rest : List MV} {lv : LV} {h : HP} {cn sn : Nat} {N' : Option MV → HP → Prop} (hkind : (ins = .invokevirtual i ∧ mm_rc 0 ck av h = true) ∨ (ins = .invokestatic i ∧ mm_rc 1 ck av h = true) ∨ (ins = .invokespecial i ∧ mm_rc 2 ck av h = true)) (hlen : av.length = n) (hwd : mm_wd rest ≤ 8) (hcn : cn + mc ≤ ne_rc E) (hsn : sn + ms ≤ ne_rs E) (hT : T av h N' X)
    (hk : ∀ (r : Option MV) (h' : HP), N' r h' → mm_K p l e R s m args below meth c (vx_MQ below Qc (mm_XC g X) args s (ne_rc E) (ne_rs E) (mm_A g)) g (pc + 3) lv (r.toList ++ rest) h' (cn + mc) (sn + ms)) : mm_K p l e R s m args below meth c (vx_MQ below Qc (mm_XC g X) args s (ne_rc E) (ne_rs E) (mm_A g)) g pc lv (av.reverse ++ rest) h cn sn := by
  obtain ⟨-, y, cy, nL, ret, lev', k, hM, hl1, hl2, hcode, hini, hd2, hlink, hk0, hn, ⟨r, hr1, hr2⟩, hinst, hsel⟩ := hCB
  obtain ⟨hx, hb, hown, hts, hK, hB, hini9, hlt, hft, hro, hgs, hoi, hoiw⟩ := C
  intro H locs ls hH hS hL hs
  have hsr : mm_okS rest := mm_okS_of _ (fun v hv => mm_okS_mem _ hs v (List.mem_append_right _ hv))
  have hsa : mm_okS av := mm_okS_of _ (fun v hv => mm_okS_mem _ hs v (List.mem_append_left _ (List.mem_reverse.mpr hv)))
  have hMM := hM g av h N' X hT
  have hpre : ∀ U : State, U.heap = H → s.WarmedH U.vm → mm_PreX g av h (av.map (mm_cv g)).toArray U := fun U hU hW =>
    ⟨⟨rfl, by rw [hU]; exact hH, va_K.moved hW.alike hK, hsa, by rw [hU]; exact mm_Sd_warm hW (mm_Sd_kept hB hSd hS.2.1)⟩, mm_Dc_warm hW hDc⟩
  have hroom : (mm_rm lev' mc ms).frames + 1 ≤ R.frames ∧ 8 + (nL + 11) + (mm_rm lev' mc ms).locals ≤ R.locals := ⟨by rw [hRf]; exact hl1, by rw [hRl]; exact hl2⟩
  have hgood := mm_goodws (Ts := mm_gt) (fun _ h => h) hcode
  have hcb := callB_of (Ts := mm_gt) (args := args) (s := s) (R := R) (own := own) (index := i) (rm := mm_rm lev' mc ms) k hts hgood rfl rfl rfl (hts _ hini) (hts _ hlink) hd2 hroom
  have hfix : CallFix p m c cc c.maxLocals s args mm_gt own := ⟨hx, hb, rfl, hown, hts⟩
  have hsum : ((rest.map (mm_cv g)).map fun v => v.category).sum ≤ 8 := by rw [mm_wdle]; exact hwd
  have hcs : cn + mc ≤ R.cells ∧ sn + ms ≤ R.slots := ⟨by rw [hRc]; exact hcn, by rw [hRs]; exact hsn⟩
  have hk1 : ck.1 = 0 := hk0
  rcases hkind with ⟨rfl, hrc⟩ | ⟨rfl, hrc⟩ | ⟨rfl, hrc⟩
  · simp only [mm_rc, Bool.and_eq_true] at hrc
    have hrv : mm_rcv ck.2 av h = true := by
      have := hrc.2
      simpa using this
    unfold mm_rcv at hrv
    split at hrv
    · rename_i a as
      split at hrv
      · rename_i cj fs hg
        have ec := Nat.eq_of_beq_eq_true hrv
        have hr3 : vwCl[cj]? = some r := by rw [← ec]; exact hr1
        have hrecv := va_recv hK hH.1 hr3 (mm_wl_get g hg)
        rw [hr2] at hrecv
        have hrun := vx_runV (l := l) (e := e) (below := below) (meth := meth) (locs := locs) (cells := cn) (slots := sn) (As := as.map (mm_cv g)) (rest := rest.map (mm_cv g)) (b := mm_ad g a) (g := F0 m pc ls (((mR a :: as).reverse ++ rest).map (mm_cv g))) hfix hMM ⟨hcb, hts _ hinst, hts _ hsel⟩ ⟨mm_blindX, hrecv, hpre⟩ rfl (by
          simp only [List.length_map]
          have : (mR a :: as).length = n := hlen
          have hn' : n = k + 1 := hn
          simp at this
          omega) hL.1.1 (by simp [List.map_append, List.map_reverse]; rfl) (lv_room hsum) hd hcs
        exact mm_backX hrun hS hL hsr hlocks hex hcn hsn hk
      · cases hrv
    · cases hrv
  · simp only [mm_rc, Bool.and_eq_true] at hrc
    exact absurd ((Nat.eq_of_beq_eq_true hrc.1).symm.trans hk1) (by decide)
  · simp only [mm_rc, Bool.and_eq_true] at hrc
    exact absurd ((Nat.eq_of_beq_eq_true hrc.1).symm.trans hk1) (by decide)
end MX2
def mm_CZ (l : Launch) (own : String) (lev i : Nat) (q : CE) : Prop := mm_CQ l own lev i q ∨ mm_CX l own lev i q
theorem mm_cz_nil {l : Launch} {own : String} {lev : Nat} : ∀ (i : Nat) (q : CE), mm_look [] i = some q → mm_CZ l own lev i q := fun _ _ h => nomatch h
theorem mm_cz_cons {l : Launch} {own : String} {lev k : Nat} {v : CE} {t : List (Nat × CE)} (h1 : mm_CZ l own lev k v) (h2 : ∀ (i : Nat) (q : CE), mm_look t i = some q → mm_CZ l own lev i q) : ∀ (i : Nat) (q : CE), mm_look ((k, v) :: t) i = some q → mm_CZ l own lev i q := by
  intro i q h
  unfold mm_look at h
  split at h
  · rename_i hk; cases h; rw [← Nat.eq_of_beq_eq_true hk]; exact h1
  · exact h2 i q h
