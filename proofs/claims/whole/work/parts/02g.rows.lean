/-! stores into the places of a world which also say that the heap is as long as before -/
section MS3
variable {p : Program} {l : Launch} {e : Env} {R : Room} {s : State} {m : MethodId} {args : Array Value} {below : List Frame} {meth : Method} {c : Code} {H : Heap} {locs : List Loc} {cells slots : Nat} {Q : State → Prop}
variable {cc : ByteArray} {pc : Nat} {ls : Array Slot} {rest : List Value} {D : va_G} {cl : List vw_C} {A : Nat → Prop} {a : Nat} {tys : List (ClassId × FieldType)} {ws : va_W} {H0 : Heap}
/-- a place got a new entry, the rest of the heap is as it was: the world after it -/
theorem mm_anew {H1 : Heap} {q0 k : Nat} {x x1 : va_E} {f : JFrame} (hP : va_P D cl ws H) (hD : va_D A ws) (hS : va_S A H0 H locs) (hx : ws[q0]? = some (a, x)) (h1 : va_at D cl (a, x1) H1) (hz : H1.size = H.size) (ho : ∀ q : Nat, q ≠ a → H1[q]? = H[q]?)
    (kk : ∀ (H1 : Heap) (locs1 : List Loc), va_P D cl (ws.set q0 (a, x1)) H1 → va_D A (ws.set q0 (a, x1)) → va_S A H0 H1 locs1 → H1.size = H.size → W p l e R s m args below meth c H1 locs1 cells slots Q f) : W p l e R s m args below meth c H1 (locs ++ [⟨a, k⟩]) cells slots Q f :=
  kk H1 _ (va_P.set hP hD hx h1 ho) (va_D.set hD hx) (va_S.put hS hz ho (hD.2 _ _ hx)) hz
/-- an array's cell: its kind of data, its length -/
theorem mm_row_vm (cA : ClassId) : ∀ z : vp_A, (vp_cell cA z).vm ≠ .unknown
  | (_, .inl _) => nofun
  | (_, .inr (.inl _)) => nofun
  | (_, .inr (.inr (.inl _))) => nofun
  | (_, .inr (.inr (.inr (.inl _)))) => nofun
  | (_, .inr (.inr (.inr (.inr _)))) => nofun
theorem mm_row_len (cA : ClassId) : ∀ z : vp_A, (vp_cell cA z).slots.size = z.1
  | (_, .inl _) => arrV_size ..
  | (_, .inr (.inl _)) => arrV_size ..
  | (_, .inr (.inr (.inl _))) => arrV_size ..
  | (_, .inr (.inr (.inr (.inl _)))) => arrV_size ..
  | (_, .inr (.inr (.inr (.inr _)))) => arrV_size ..
theorem mm_row_in {cA : ClassId} {z : vp_A} {i : Int32} (h : vp_in i z.1) : ¬ (i < 0 ∨ (vp_cell cA z).slots.size ≤ i.toNatClampNeg) := by
  rw [mm_row_len]
  exact h
theorem mm_row_of {cA : ClassId} {ty : FieldType} (h : ArrOfT s cA ty) : ∀ z : vp_A, s.isArrayOf (vp_cell cA z) ty
  | (_, .inl _) => h _ _
  | (_, .inr (.inl _)) => h _ _
  | (_, .inr (.inr (.inl _))) => h _ _
  | (_, .inr (.inr (.inr (.inl _)))) => h _ _
  | (_, .inr (.inr (.inr (.inr _)))) => h _ _
/-- an element of it stored -/
theorem mm_row_i (cA : ClassId) (n j : Nat) (f : Nat → Int32) (y : Int32) : (vp_cell cA (n, .inl f)).setSlot j (.int y) = vp_cell cA (n, .inl (upd f j y)) :=
  (arrV_store cA n j _ _).trans (congrArg (arrV cA n) (funext fun q => (apply_ite Value.int (q = j) y (f q)).symm))
theorem mm_row_l (cA : ClassId) (n j : Nat) (f : Nat → Int64) (y : Int64) : (vp_cell cA (n, .inr (.inl f))).setSlot j (.long y) = vp_cell cA (n, .inr (.inl (vp_updL f j y))) :=
  (arrV_store cA n j _ _).trans (congrArg (arrV cA n) (funext fun q => (apply_ite Value.long (q = j) y (f q)).symm))
theorem mm_vput (hexec : p.tables.exec = Jvm.exec) (hb : c.code = cc) {own C : String} {T : u_T} {N ci index : Nat} {Ts : List Cond} (hts : ∀ w ∈ Ts, w.before args s = true) (hin : ∀ w ∈ u_ws C T N, w ∈ Ts) (ty0 : Nat → FieldType) (hty : ∀ k, k < N → parseFieldDescriptor (T k).2.2.1 = some (ty0 k)) (hnm : ∀ a, a < N → ∀ b, b < N → a ≠ b → (T a).2.1 ≠ (T b).2.1) (hown : s.vm.findClass own = some m.cls) (hK : va_K D cl tys s) (hP : va_P D cl ws H) (hD : va_D A ws) (hS0 : va_S A H0 H locs) (q0 : Nat) {fs : List Value} (he : ws[q0]? = some (a, .inr (ci, fs))) (hc : cl[ci]? = some (C, T, N)) (k : Nat) (hk : k < N) (hlink : (Cond.fieldLink own index (T k).1 (T k).2.1 (T k).2.2.1).before args s = true) (hfin : (T k).2.2.2 = false ∨ ((T k).2.2.2 = true ∧ meth.name = "<init>" ∧ (T k).1 = own)) {ty : FieldType} {v : Value} (hd : parseFieldDescriptor (T k).2.2.1 = some ty) (hn : narrow ty v = v) (hfit : fits ty v = true) (hl : k < fs.length)
    (hdg : decode cc pc = .ok (.putfield index, 3)) (kk : ∀ (H1 : Heap) (locs1 : List Loc), va_P D cl (ws.set q0 (a, .inr (ci, fs.set k v))) H1 → va_D A (ws.set q0 (a, .inr (ci, fs.set k v))) → va_S A H0 H1 locs1 → H1.size = H.size → W p l e R s m args below meth c H1 locs1 cells slots Q (F0 m (pc + 3) ls rest)) : W p l e R s m args below meth c H locs cells slots Q (F0 m pc ls (v :: .ref a :: rest)) := by
  obtain ⟨r, hr, cell, e1, e2, e3, e4⟩ := hP q0 _ he
  cases hc.symm.trans hr
  obtain ⟨hSl, hAt, kC, hkC, hord⟩ := hK.1 ci _ hc
  obtain ⟨cf, kf, fi, f, hfound, hslot⟩ := hSl k hk
  have hw := u_lays hts hin hk
  have hval := u_fits hAt hkC hord hw hfound hd hn hfit
  have hplace : hasFlag f.accessFlags Acc.final = false ∨ (m.cls = cf ∧ meth.name = "<init>") := by
    have hl := hts _ (hin _ (u_in_lay hk))
    rcases hfin with h0 | ⟨h0, hini, hdecl⟩
    · rw [u_lay, h0, if_neg Bool.false_ne_true] at hl
      exact Or.inl (u_store hAt hkC hord hl hfound hd hn hfit).1
    · rw [u_lay, if_pos h0] at hl
      obtain ⟨_, _, c2, _, _, _, _, _, hf2, _, _, _, ho2, _⟩ := Cond.laysFinal_spec hl
      rw [hfound] at hf2
      cases hf2
      rw [hdecl, hown] at ho2
      exact Or.inr ⟨Option.some.inj ho2, hini⟩
  have hroom : f.slot < cell.slots.size := k2_hasslot (hslot ▸ e4 k hk)
  have hlen : a < H.size := (Array.getElem?_eq_some_iff.mp e1).1
  refine W.putf hexec hb hown hlink hfound (u_facts hAt hkC hw hfound).1 hplace e1 (by rw [e3]; nofun) hroom hval.1 (by rw [e2, e3]; exact hval.2) rfl rfl hdg (mm_anew (x1 := .inr (ci, fs.set k v)) hP hD hS0 he ⟨_, hc, ?_⟩ Array.size_setIfInBounds (fun q hq => ?_) kk)
  · refine ⟨cell.setSlot f.slot v, ?_, e2, e3, fun j hj => ?_⟩
    · rw [Array.getElem?_setIfInBounds_self_of_lt hlen]
    · rw [hslot, t_set e4 (va_apart (own := own) hts hin ty0 hty hnm hK hc) hk v j hj, vp_updV_set hl]
  · rw [Array.getElem?_setIfInBounds_ne (Ne.symm hq)]
theorem mm_viast (hexec : p.tables.exec = Jvm.exec) (hb : c.code = cc) (hK : va_K D cl tys s) (hP : va_P D cl ws H) (hD : va_D A ws) (hS : va_S A H0 H locs) (q0 t0 : Nat) {cA : ClassId} {n : Nat} {f : Nat → Int32} (ha : ws[q0]? = some (a, .inl (cA, n, .inl f))) (ht : tys[t0]? = some (cA, .int)) {i : Int32} {x : Int32} (hin : vp_in i n) (hdg : decode cc pc = .ok (.iastore, 1))
    (kk : ∀ (H1 : Heap) (locs1 : List Loc), va_P D cl (ws.set q0 (a, .inl (cA, n, .inl (upd f i.toNatClampNeg x)))) H1 → va_D A (ws.set q0 (a, .inl (cA, n, .inl (upd f i.toNatClampNeg x)))) → va_S A H0 H1 locs1 → H1.size = H.size → W p l e R s m args below meth c H1 locs1 cells slots Q (F0 m (pc + 1) ls rest)) : W p l e R s m args below meth c H locs cells slots Q (F0 m pc ls (.int x :: .int i :: .ref a :: rest)) := by
  refine W.iast hexec hb (hP _ _ ha) (mm_row_of (hK.2 _ _ ht).1 _) (mm_row_vm _ _) (mm_row_in hin) rfl rfl hdg fun H1 e1 hz ho => mm_anew hP hD hS ha ?_ hz ho kk
  exact e1.trans (congrArg some (mm_row_i ..))
theorem mm_vbast (hexec : p.tables.exec = Jvm.exec) (hb : c.code = cc) (hK : va_K D cl tys s) (hP : va_P D cl ws H) (hD : va_D A ws) (hS : va_S A H0 H locs) (q0 t0 : Nat) {cA : ClassId} {n : Nat} {f : Nat → Int32} (ha : ws[q0]? = some (a, .inl (cA, n, .inl f))) (ht : tys[t0]? = some (cA, .byte)) {i : Int32} {x : Int32} (hin : vp_in i n) (hdg : decode cc pc = .ok (.bastore, 1))
    (kk : ∀ (H1 : Heap) (locs1 : List Loc), va_P D cl (ws.set q0 (a, .inl (cA, n, .inl (upd f i.toNatClampNeg (vp_nar .byte x))))) H1 → va_D A (ws.set q0 (a, .inl (cA, n, .inl (upd f i.toNatClampNeg (vp_nar .byte x))))) → va_S A H0 H1 locs1 → H1.size = H.size → W p l e R s m args below meth c H1 locs1 cells slots Q (F0 m (pc + 1) ls rest)) : W p l e R s m args below meth c H locs cells slots Q (F0 m pc ls (.int x :: .int i :: .ref a :: rest)) := by
  refine W.bast hexec hb (hP _ _ ha) (mm_row_of (hK.2 _ _ ht).1 _) (mm_row_vm _ _) (mm_row_in hin) rfl rfl hdg fun H1 e1 hz ho => mm_anew hP hD hS ha ?_ hz ho kk
  exact e1.trans (congrArg some (mm_row_i ..))
theorem mm_vzast (hexec : p.tables.exec = Jvm.exec) (hb : c.code = cc) (hK : va_K D cl tys s) (hP : va_P D cl ws H) (hD : va_D A ws) (hS : va_S A H0 H locs) (q0 t0 : Nat) {cA : ClassId} {n : Nat} {f : Nat → Int32} (ha : ws[q0]? = some (a, .inl (cA, n, .inl f))) (ht : tys[t0]? = some (cA, .boolean)) {i : Int32} {x : Int32} (hin : vp_in i n) (hdg : decode cc pc = .ok (.bastore, 1))
    (kk : ∀ (H1 : Heap) (locs1 : List Loc), va_P D cl (ws.set q0 (a, .inl (cA, n, .inl (upd f i.toNatClampNeg (vp_nar .boolean x))))) H1 → va_D A (ws.set q0 (a, .inl (cA, n, .inl (upd f i.toNatClampNeg (vp_nar .boolean x))))) → va_S A H0 H1 locs1 → H1.size = H.size → W p l e R s m args below meth c H1 locs1 cells slots Q (F0 m (pc + 1) ls rest)) : W p l e R s m args below meth c H locs cells slots Q (F0 m pc ls (.int x :: .int i :: .ref a :: rest)) := by
  refine W.zast hexec hb (hP _ _ ha) (mm_row_of (hK.2 _ _ ht).1 _) (mm_row_vm _ _) (mm_row_in hin) rfl rfl hdg fun H1 e1 hz ho => mm_anew hP hD hS ha ?_ hz ho kk
  exact e1.trans (congrArg some (mm_row_i ..))
theorem mm_vlast (hexec : p.tables.exec = Jvm.exec) (hb : c.code = cc) (hK : va_K D cl tys s) (hP : va_P D cl ws H) (hD : va_D A ws) (hS : va_S A H0 H locs) (q0 t0 : Nat) {cA : ClassId} {n : Nat} {f : Nat → Int64} (ha : ws[q0]? = some (a, .inl (cA, n, .inr (.inl f)))) (ht : tys[t0]? = some (cA, .long)) {i : Int32} {x : Int64} (hin : vp_in i n) (hdg : decode cc pc = .ok (.lastore, 1))
    (kk : ∀ (H1 : Heap) (locs1 : List Loc), va_P D cl (ws.set q0 (a, .inl (cA, n, .inr (.inl (vp_updL f i.toNatClampNeg x))))) H1 → va_D A (ws.set q0 (a, .inl (cA, n, .inr (.inl (vp_updL f i.toNatClampNeg x))))) → va_S A H0 H1 locs1 → H1.size = H.size → W p l e R s m args below meth c H1 locs1 cells slots Q (F0 m (pc + 1) ls rest)) : W p l e R s m args below meth c H locs cells slots Q (F0 m pc ls (.long x :: .int i :: .ref a :: rest)) := by
  refine W.last hexec hb (hP _ _ ha) (mm_row_of (hK.2 _ _ ht).1 _) (mm_row_vm _ _) (mm_row_in hin) rfl rfl hdg fun H1 e1 hz ho => mm_anew hP hD hS ha ?_ hz ho kk
  exact e1.trans (congrArg some (mm_row_l ..))
theorem mm_vaald (hexec : p.tables.exec = Jvm.exec) (hb : c.code = cc) (hK : va_K D cl tys s) (hP : va_P D cl ws H) (q0 t0 : Nat) {cA : ClassId} {t : FieldType} {n : Nat} {f : Nat → Option Nat} (ha : ws[q0]? = some (a, .inl (cA, n, .inr (.inr (.inr (.inr f)))))) (ht : tys[t0]? = some (cA, .array t)) {i : Int32} (hin : vp_in i n) (hdg : decode cc pc = .ok (.aaload, 1))
    (kk : W p l e R s m args below meth c H locs cells slots Q (F0 m (pc + 1) ls (va_rf (f i.toNatClampNeg) :: rest))) : W p l e R s m args below meth c H locs cells slots Q (F0 m pc ls (.int i :: .ref a :: rest)) := by
  refine W.aald (v := va_rf (f i.toNatClampNeg)) hexec hb (hP _ _ ha) (mm_row_of (hK.2 _ _ ht).1 _) rfl (mm_row_vm _ _) (mm_row_in hin) ?_ rfl rfl hdg kk
  exact arrV_read cA (fun j => va_rf (f j)) (Nat.lt_of_not_le fun q => hin (Or.inr q))
end MS3
