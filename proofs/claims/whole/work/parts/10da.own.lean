/-! rows of our own in place of library rows beyond PAGE.txt's seven: the class of an array over arrays; a chain of constructors whose first link bears another index; new int[n][k] -/
section OW
/-- what 'arrayOver' of an array type says -/
theorem ow_over {args : Array Value} {s : State} {t : FieldType} (h : (Jvm.Cond.arrayOver (.array t)).before args s = true) : ∃ (co cA : ClassId) (kA : Class), s.vm.findClass (FieldType.array t).toString = some co ∧ s.vm.classes[cA]? = some kA ∧ kA.kind = .array co (.array t) ∧ s.vm.findClass ("[" ++ (FieldType.array t).toString) = some cA := by
  have h1 : (Jvm.Cond.arrayOver (.array t)).holds args s none s [] = true := h
  simp only [Jvm.Cond.holds, Jvm.Cond.value, beq_iff_eq] at h1
  obtain ⟨co, hco, h2⟩ := Option.bind_eq_some_iff.mp h1
  obtain ⟨cA, hix, h3⟩ := Option.bind_eq_some_iff.mp h2
  obtain ⟨kA, hkA, h4⟩ := Option.map_eq_some_iff.mp h3
  obtain ⟨hlt, hp, -⟩ := Array.findIdx?_eq_some_iff_getElem.mp hix
  have e1 : s.vm.classes[cA] = kA := by
    rw [Array.getElem?_eq_getElem hlt] at hkA
    exact Option.some.inj hkA
  rw [e1] at hp
  cases hk : kA.kind with
  | array c2 ty =>
    rw [hk] at h4 hp
    have h5 := Bool.and_eq_true_iff.mp h4
    have e2 : c2 = co := by simpa using hp
    have e3 : ty = .array t := of_decide_eq_true h5.1
    subst e2 e3
    exact ⟨_, cA, kA, hco, hkA, hk, of_decide_eq_true h5.2⟩
  | _ =>
    rw [hk] at hp
    cases hp
/-- the words of a chain of constructors that pass a text on: the first by any index, the others as the library's chain has them -/
def ow_chat (X : String) (ix : Nat) (rx : ByteArray) (names : List String) : List Jvm.Cond :=
  match names with
  | [] => Bundle.passSAtoms X Bundle.tN ix rx
  | Y :: r => Bundle.passSAtoms X Y ix rx ++ Bundle.chainSAtoms Y r
theorem ow_chain {args : Array Value} {s : State} {pl : Platform} (hpl : pl.magicAccessors = ({} : Platform).magicAccessors) {top : MethodId} (htop : s.methodNamed? (Bundle.initS Bundle.tN) = some top) {ix : Nat} {rx : ByteArray}
    (x0 : decode rx 0 = .ok (.aload_n 0, 1)) (x1 : decode rx 1 = .ok (.aload_n 1, 1)) (x2 : decode rx 2 = .ok (.invokespecial ix, 3)) (x5 : decode rx 5 = .ok (.return_, 1))
    {names : List String} {X : String} (hX : Bundle.fit X = true) (hn : ∀ n ∈ names, Bundle.fit n = true) (h : ∀ w ∈ ow_chat X ix rx names, w.before args s = true) :
    ∃ (P : PassC) (Ps : List PassC), Ps.length = names.length ∧ (∀ q ∈ P :: Ps, q.LinksS pl s) ∧ s.methodNamed? (Bundle.initS X) = some P.m ∧ PassesOn top ((P :: Ps).map (·.toPassT)) := by
  cases names with
  | nil =>
    obtain ⟨P, hL, hm, hs⟩ := PassC.ofS_atoms (args := args) hpl (Bundle.fit_spec hX).1 (by decide) x0 x1 x2 x5 h
    rw [htop] at hs
    refine ⟨P, [], rfl, fun q hq => ?_, hm, (Option.some.inj hs).symm, trivial⟩
    cases List.mem_singleton.mp hq
    exact hL
  | cons Y r =>
    have hY := hn Y (List.mem_cons_self ..)
    obtain ⟨P, hL, hm, hs⟩ := PassC.ofS_atoms (args := args) hpl (Bundle.fit_spec hX).1 (Bundle.fit_spec hY).2 x0 x1 x2 x5 (fun w hw => h w (List.mem_append_left _ hw))
    obtain ⟨P2, Ps, hlen, hL2, hLs, hm2, hup, hon⟩ := Bundle.chainS (args := args) hpl htop r Y hY (fun n hr => hn n (List.mem_cons_of_mem _ hr)) (fun w hw => h w (List.mem_append_right _ hw))
    rw [hm2] at hs
    refine ⟨P, P2 :: Ps, congrArg (· + 1) hlen, fun q hq => ?_, hm, (Option.some.inj hs).symm, hup, hon⟩
    rcases List.mem_cons.mp hq with e | hq
    · rw [e]; exact hL
    · rcases List.mem_cons.mp hq with e | hq
      · rw [e]; exact hL2
      · exact hLs q hq
/-- an array made in any state -/
theorem ow_new {e : Env} {S : State} {cX co : ClassId} {kX : Class} {ty : FieldType} {len : Nat} {v : Value} (hk : S.vm.classes[cX]? = some kX) (hkd : kX.kind = .array co ty) (hf : fits ty v = true) (hv : v.isDefault = true) (h1 : len ≤ e.platform.arrayLengthLimit) (h2 : len * componentBytes ty ≤ e.platform.maxHeapBytes) (h3 : S.heap.size < e.platform.maxCells) (h4 : S.slotsUsed + len ≤ e.platform.maxSlots) {Q : Addr → Pre} {E : CtlPost} {d : Bool} {acts : List Action} (hq : Q S.heap.size d acts (S.pushCell { cls := cX, slots := Array.replicate len v, vm := .none })) : wp (Jvm.newArray cX len v) Q E e d acts S := by
  have ha : allocActs (Array.replicate len v) S.heap.size acts = acts := by
    unfold allocActs
    rw [if_pos]
    rw [Array.all_replicate]
    split
    · rfl
    · exact hv
  have n1 : ¬ len > e.platform.arrayLengthLimit := by omega
  have n2 : ¬ len * componentBytes ty > e.platform.maxHeapBytes := by omega
  have n3 : ¬ len > e.platform.maxSlots := by omega
  simp only [Jvm.newArray, Jvm.arrayFits, wp_bind', W.ask, W.ite, n1, n2, n3, if_false, wp_pure', W.theClass, hk, hkd, Option.some.injEq, exists_eq_left', W.alloc, Array.size_replicate, ha]
  refine ⟨h3, h4, fun i x hx => ?_, hq⟩
  rw [Array.getElem?_replicate] at hx
  split at hx
  · cases hx
    unfold State.fitsSlot State.slotType?
    simp only [hk, hkd, Option.bind_eq_bind, Option.bind_some]
    exact hf
  · cases hx
end OW
section OM
/-- how far it is: of N rows of K ints i are made, from the heap's old end on; the row of rows names them -/
def ow_at (p : Program) (l : Launch) (e : Env) (R : Room) (s : State) (m : MethodId) (args : Array Value) (below : List Frame) (meth : Method) (c : Code) (T : State) (locs : List Loc) (cells slots : Nat) (vm1 : Vm) (cA cy : ClassId) (N K i : Nat) (U : State) : Prop :=
  (∃ L : List Loc, (∀ z ∈ L, z.base = T.heap.size) ∧ Stand p l e R s m args below meth c U (locs ++ L) (cells + 1 + i) (slots + N + i * K)) ∧ U.vm = vm1 ∧ U.heap.size = T.heap.size + 1 + i ∧ U.heap[T.heap.size]? = some (arrV cA N (fun j => if j < i then .ref (T.heap.size + 1 + j) else .null)) ∧ (∀ a, a < T.heap.size → U.heap[a]? = T.heap[a]?) ∧ ∀ j, j < i → U.heap[T.heap.size + 1 + j]? = some (arrV cy K (fun _ => .int 0))
variable {p : Program} {l : Launch} {e : Env} {R : Room} {s : State} {m : MethodId} {args : Array Value} {below : List Frame} {meth : Method} {c : Code} {T : State} {locs : List Loc} {cells slots : Nat}
/-- one row more -/
theorem ow_more {vm1 : Vm} {cA cy : ClassId} {N K i : Nat} {U : State} (hi : i < N) (h : ow_at p l e R s m args below meth c T locs cells slots vm1 cA cy N K i U) :
    ow_at p l e R s m args below meth c T locs cells slots vm1 cA cy N K (i + 1) ((U.pushCell (arrV cy K (fun _ => .int 0))).setCell T.heap.size ((arrV cA N (fun j => if j < i then .ref (T.heap.size + 1 + j) else .null)).setSlot i (.ref (T.heap.size + 1 + i)))) := by
  obtain ⟨⟨L, hL, X⟩, hv, hz, ho, hold, hrow⟩ := h
  have ho1 : (U.pushCell (arrV cy K (fun _ => .int 0))).heap[T.heap.size]? = some (arrV cA N (fun j => if j < i then .ref (T.heap.size + 1 + j) else .null)) := by
    exact (State.heap_pushCell_of_lt U _ (show T.heap.size < U.heap.size by omega)).trans ho
  have X1 := X.pushed (arrV cy K (fun _ => .int 0))
  have X2 := X1.stored ho1 i (.ref (T.heap.size + 1 + i))
  rw [arrV_size, List.append_assoc] at X2
  have sz : (U.pushCell (arrV cy K (fun _ => .int 0))).heap.size = U.heap.size + 1 := by simp
  refine ⟨⟨L ++ [⟨T.heap.size, i⟩], fun z hzz => ?_, ?_⟩, hv, ?_, ?_, fun a ha => ?_, fun j hj => ?_⟩
  · rcases List.mem_append.mp hzz with q | q
    · exact hL z q
    · rw [List.mem_singleton.mp q]
  · have e1 : slots + N + (i + 1) * K = slots + N + i * K + K := by rw [Nat.add_mul, Nat.one_mul]; omega
    rw [e1]
    exact X2
  · show ((U.heap.push _).setIfInBounds _ _).size = _
    rw [Array.size_setIfInBounds, Array.size_push]
    omega
  · rw [heapAt_setCell_self _ (show T.heap.size < (U.pushCell (arrV cy K (fun _ => .int 0))).heap.size by rw [sz]; omega), arrV_store]
    refine congrArg (fun f => some (arrV cA N f)) (funext fun j => ?_)
    unfold updV
    by_cases q : j = i
    · rw [if_pos q, if_pos (by omega), q]
    · rw [if_neg q]
      show (if j < i then Value.ref (T.heap.size + 1 + j) else Value.null) = _
      by_cases q2 : j < i
      · rw [if_pos q2, if_pos (by omega)]
      · rw [if_neg q2, if_neg (by omega)]
  · rw [heapAt_setCell_ne _ (show T.heap.size ≠ a by omega)]
    exact (State.heap_pushCell_of_lt U _ (show a < U.heap.size by omega)).trans (hold a ha)
  · rw [heapAt_setCell_ne _ (show T.heap.size ≠ T.heap.size + 1 + j by omega)]
    by_cases q : j < i
    · exact (State.heap_pushCell_of_lt U _ (show T.heap.size + 1 + j < U.heap.size by omega)).trans (hrow j q)
    · rw [show T.heap.size + 1 + j = U.heap.size by omega]
      exact State.heap_pushCell_size _ _
/-- the rest of the rows -/
theorem ow_loop {vm1 : Vm} {cA cy co : ClassId} {kA kY : Class} {N : Nat} {k : Int32} (hkA : vm1.classes[cA]? = some kA) (hA : kA.kind = .array cy (.array .int)) (hkY : vm1.classes[cy]? = some kY) (hY : kY.kind = .array co .int) (hk : ¬ k < 0) (h1 : k.toNatClampNeg ≤ e.platform.arrayLengthLimit) (h2 : k.toNatClampNeg * 4 ≤ e.platform.maxHeapBytes) (hc : cells + 1 + N ≤ R.cells) (hs : slots + N + N * k.toNatClampNeg ≤ R.slots)
    {f : Nat → PUnit → Sem (ForInStep PUnit)} (hf : ∀ j u, f j u = multianewarray.make cy [k] >>= fun a => writeLoc T.heap.size j (.ref a) >>= fun _ => Pure.pure (ForInStep.yield PUnit.unit)) :
    ∀ (r i : Nat) (U : State), i + r = N → ow_at p l e R s m args below meth c T locs cells slots vm1 cA cy N k.toNatClampNeg i U → ∃ V, ow_at p l e R s m args below meth c T locs cells slots vm1 cA cy N k.toNatClampNeg N V ∧ ∀ (t : JFrame) (Q : PUnit → Pre) (E : CtlPost) (d : Bool) (acts : List Action), (∀ d' acts', Q PUnit.unit d' acts' (V.setTop t)) → wp (forIn (List.range' i r) PUnit.unit f) Q E e d acts (U.setTop t) := by
  intro r
  induction r with
  | zero =>
    intro i U hi h
    rw [Nat.add_zero] at hi
    subst hi
    refine ⟨U, h, fun t Q E d acts hq => ?_⟩
    rw [List.range'_zero, List.forIn_nil, wp_pure']
    exact hq _ _
  | succ r ih =>
    intro i U hi h
    obtain ⟨V, hV, run⟩ := ih (i + 1) _ (by omega) (ow_more (by omega) h)
    refine ⟨V, hV, fun t Q E d acts hq => ?_⟩
    obtain ⟨⟨L, hL, X⟩, hv, hz, ho, hold, hrow⟩ := h
    have hm : i * k.toNatClampNeg + k.toNatClampNeg ≤ N * k.toNatClampNeg := by
      have := Nat.mul_le_mul_right k.toNatClampNeg (show i + 1 ≤ N by omega)
      rw [Nat.add_mul, Nat.one_mul] at this
      exact this
    obtain ⟨r1, r2⟩ := X.roomAbove (a := 1) (b := k.toNatClampNeg) (by omega) (by omega)
    rw [List.range'_succ, List.forIn_cons, hf]
    simp only [wp_bind', multianewarray.make, W.ite, hk, if_false, wp_pure', W.theClass, State.vm_setTop, hv, hkY, Option.some.injEq, exists_eq_left', hY]
    refine ow_new (S := U.setTop t) (kX := kY) (co := co) (ty := .int) (by rw [State.vm_setTop, hv]; exact hkY) hY rfl rfl h1 h2 (by show U.heap.size < _; omega) r2 ?_
    rw [wp_bind', W.writeLoc]
    refine ⟨arrV cA N (fun j => if j < i then .ref (T.heap.size + 1 + j) else .null), ?_, (by intro q; cases q), (by rw [arrV_size]; omega), ?_, ?_⟩
    · show (U.heap.push _)[_]? = _
      rw [Array.getElem?_push_lt (by omega), ← Array.getElem?_eq_getElem]
      exact ho
    · show ((U.setTop t).pushCell _).fitsSlot cA .none i _ = true
      unfold State.fitsSlot State.slotType?
      rw [show ((U.setTop t).pushCell _).vm = vm1 from hv, hkA]
      simp only [hA, Option.bind_eq_bind, Option.bind_some]
      rfl
    · have e0 : defaultValue .int = Value.int 0 := rfl
      rw [wp_pure', e0, arrV_new, State.heap_setTop, hz]
      exact run t Q E _ _ hq
end OM
section OR
variable {p : Program} {l : Launch} {e : Env} {R : Room} {s : State} {m : MethodId} {args : Array Value} {below : List Frame} {meth : Method} {c : Code} {T : State} {locs : List Loc} {cells slots : Nat}
theorem ow_cold {Q : Unit → Pre} {E : CtlPost} {d : Bool} {acts : List Action} {U : State} {f : JFrame} {index dims cX : Nat} {vm1 : Vm} (ht : U.topJava?.isSome) (hg : (Jvm.resolveClass f.method.cls index).Gives e.toSetting U.vm (.ok cX) vm1) (hr : vm1.classReady f.method.cls index cX) (hz : vm1.classes.size ≤ U.vm.classes.size) :
    wp (multianewarray.sem index dims) Q E e d acts (U.setTop f) ↔ wp (multianewarray.sem index dims) Q E e d acts ((U.setVm vm1).setTop f) := by
  unfold multianewarray.sem
  rw [wp_bind', wp_bind']
  exact W.resolveClassAt_transfer (s := U.setTop f) (State.method?_setTop f ht) hg hr hz
/-- new int[n][k]: where it leads to -/
theorem ow_rows (X : Stand p l e R s m args below meth c T locs cells slots) (hexec : p.tables.exec = Jvm.exec) {own : String} {index : Nat} (hown : s.vm.findClass own = some m.cls) (hcl : (Jvm.Cond.classLink own index "[[I").before args s = true) (hov : (Jvm.Cond.arrayOver (.array .int)).before args s = true) (har : (Jvm.Cond.arrayClass .int).before args s = true)
    {g : JFrame} (hg : g.method = m) (hd : decode c.code g.pc = .ok (.multianewarray index 2, 4)) {n k : Int32} {rest : List Value} (hst : g.stack = .int k :: .int n :: rest) (hn : ¬ n < 0) (hk : ¬ k < 0) (b1 : n.toNatClampNeg * 4 ≤ 536870912) (b2 : k.toNatClampNeg * 4 ≤ 536870912) (hc : cells + 1 + n.toNatClampNeg ≤ R.cells) (hs : slots + n.toNatClampNeg + n.toNatClampNeg * k.toNatClampNeg ≤ R.slots) :
    ∃ (V : State) (vm1 : Vm) (cA cy : ClassId), s.vm.findClass "[[I" = some cA ∧ s.vm.findClass "[I" = some cy ∧ ow_at p l e R s m args below meth c T locs cells slots vm1 cA cy n.toNatClampNeg k.toNatClampNeg n.toNatClampNeg V ∧
      ∀ target, Steps p.tables e below (V.setTop { g with pc := g.pc + 4, stack := .ref T.heap.size :: rest }) target → Steps p.tables e below (T.setTop g) target := by
  subst hg
  have hpl : e.platform.magicAccessors = ({} : Platform).magicAccessors := by rw [X.admits.platform]
  obtain ⟨cy, cA, kA, hcy, hkA, hA, hnA⟩ := ow_over hov
  obtain ⟨cy2, kY, co, hcy2, hkY, hY⟩ := Jvm.Cond.arrayClass_spec har
  obtain ⟨cA2, hnA2, hlk⟩ := Jvm.Cond.classLink_spec hown hcl e.platform hpl
  cases Option.some.inj ((show s.vm.findClass "[I" = some cy from hcy).symm.trans (show s.vm.findClass "[I" = some cy2 from hcy2))
  cases Option.some.inj ((show s.vm.findClass "[[I" = some cA from hnA).symm.trans hnA2)
  obtain ⟨hg1, hw1, hr1⟩ := State.classEntry (e := e) X.warmed hlk
  have hz1 : (T.vm.noted g.method.cls index (.cls cA)).classes.size ≤ T.vm.classes.size := by no_record
  generalize T.vm.noted g.method.cls index (.cls cA) = vm1 at hg1 hw1 hr1 hz1
  obtain ⟨kA1, hkA1, eA⟩ := hw1.alike.2.2 _ _ hkA
  obtain ⟨kY1, hkY1, eY⟩ := hw1.alike.2.2 _ _ hkY
  have hA1 : kA1.kind = .array cy (.array .int) := by rw [eA]; exact hA
  have hY1 : kY1.kind = .array co .int := by rw [eY]; exact hY
  have hlim : 536870912 ≤ e.platform.arrayLengthLimit := by
    rw [Launch.admits_arrayLengthLimit X.admits]
    decide
  have hmax : e.platform.maxHeapBytes = 536870912 := Launch.admits_maxHeapBytes X.admits
  obtain ⟨q1, q2⟩ := X.roomAbove (a := 1) (b := n.toNatClampNeg) (by omega) (by omega)
  have X1 := (X.noted hw1).pushed { cls := cA, slots := Array.replicate n.toNatClampNeg .null, vm := .none }
  have h0 : ow_at p l e R s g.method args below meth c T locs cells slots vm1 cA cy n.toNatClampNeg k.toNatClampNeg 0 ((T.setVm vm1).pushCell { cls := cA, slots := Array.replicate n.toNatClampNeg .null, vm := .none }) := by
    refine ⟨⟨[], fun z hz => (by cases hz), ?_⟩, rfl, ?_, ?_, fun a ha => ?_, fun j hj => absurd hj (Nat.not_lt_zero j)⟩
    · rw [List.append_nil, Nat.zero_mul]
      rw [Array.size_replicate] at X1
      exact X1
    · show (T.heap.push _).size = _
      rw [Array.size_push]
    · rw [arrV_new]
      refine (State.heap_pushCell_size (T.setVm vm1) _).trans (congrArg (fun f => some (arrV cA n.toNatClampNeg f)) (funext fun j => ?_))
      rw [if_neg (Nat.not_lt_zero j)]
    · exact State.heap_pushCell_of_lt (T.setVm vm1) _ ha
  obtain ⟨V, hV, run⟩ := ow_loop (k := k) hkA1 hA1 hkY1 hY1 hk (by omega) (by omega) hc hs (fun _ _ => rfl) n.toNatClampNeg 0 _ (by omega) h0
  refine ⟨V, vm1, cA, cy, hnA, hcy, hV, fun target hrest => ?_⟩
  have hT1 : (T.setVm vm1).topJava?.isSome := X.here.top
  have hVt : V.topJava?.isSome := by
    obtain ⟨⟨L, -, XV⟩, -⟩ := hV
    exact XV.here.top
  have key : ∀ (Q : Unit → Pre) (E : CtlPost) (d : Bool) (acts : List Action), (∀ acts', Q () true acts' (V.setTop { g with stack := .ref T.heap.size :: rest })) → wp (multianewarray.sem index 2) Q E e d acts (T.setTop g) := by
    intro Q E d acts hq
    rw [ow_cold X.here.top hg1 hr1 hz1]
    unfold multianewarray.sem
    rw [wp_bind', W.resolveClassAt_ready (s := (T.setVm vm1).setTop g) (State.method?_setTop g hT1) hr1, wp_bind']
    refine (popN_top (s := T.setVm vm1) (f := g) hT1 (args := [.int n, .int k]) (rest := rest) hst).mpr ?_
    simp only [List.mapM_cons, List.mapM_nil, wp_bind', wp_pure']
    rw [multianewarray.make]
    simp only [wp_bind', W.ite, hn, if_false, W.theClass, State.vm_setTop]
    refine ⟨kA1, hkA1, ?_⟩
    rw [hA1]
    simp only [wp_bind']
    refine ow_new (S := (T.setVm vm1).setTop { g with stack := rest }) (kX := kA1) hkA1 hA1 rfl rfl (by omega) (by show n.toNatClampNeg * 4 ≤ _; omega) q1 q2 ?_
    have hno : List.find? (fun x : Int32 => decide (x < 0)) [k] = none := by simp [hk]
    rw [hno]
    simp only [ite_self, wp_bind', wp_pure', Std.Legacy.Range.forIn_eq_forIn_range', Std.Legacy.Range.size, Nat.sub_zero, Nat.add_sub_cancel, Nat.div_one]
    refine run { g with stack := rest } _ _ _ _ (fun d' acts' => ?_)
    rw [wp_pure', wp_bind', W.mark, W.pushRef]
    refine ⟨_, State.topJava?_setTop' _ hVt, ?_⟩
    rw [State.setTop_setTop]
    exact hq _
  jvm_step X.here [hexec, hd]
  refine key _ _ _ _ (fun acts' acts => ?_)
  simpa [jvm, hVt] using hrest
end OR
