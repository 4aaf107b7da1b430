/-! the small machine's step is the real one's -/
section MS4
variable {p : Program} {l : Launch} {e : Env} {R : Room} {s : State} {m : MethodId} {args : Array Value} {below : List Frame} {meth : Method} {c : Code} {Q : State → Prop}
variable {cc : ByteArray} {own : String} {g : SG} {E : NE}
theorem mm_ldI_t {lv : LV} {i : Nat} {z : Int} (h : mm_ldI lv i = some z) : lv[i]? = some (some (mI z)) := by
  unfold mm_ldI at h
  split at h
  · rename_i h1; cases h; exact h1
  · cases h
theorem mm_ldL_t {lv : LV} {i : Nat} {x : Int64} (h : mm_ldL lv i = some x) : lv[i]? = some (some (mL x)) := by
  unfold mm_ldL at h
  split at h
  · rename_i h1; cases h; exact h1
  · cases h
theorem mm_ldA_t {lv : LV} {i : Nat} {x : Option Nat ⊕ Nat} (h : mm_ldA lv i = some x) : lv[i]? = some (some (.inr (.inr x))) := by
  unfold mm_ldA at h
  split at h
  · rename_i h1; cases h; exact h1
  · cases h
/-- a reference on the stack is null or an address -/
theorem mm_cvA (x : Option Nat ⊕ Nat) : mm_cv g (.inr (.inr x)) = .null ∨ ∃ a, mm_cv g (.inr (.inr x)) = .ref a := by
  rcases x with o | r
  · rcases o with _ | i
    · exact Or.inl rfl
    · exact Or.inr ⟨_, rfl⟩
  · exact Or.inr ⟨_, rfl⟩
theorem mm_br_sound {cn sn : Nat} {cd : Jvm.ClassFile.Cond} {a b : Int} (ha : mm_rng a) (hb0 : mm_rng b) (hx : p.tables.exec = Jvm.exec) (hb : c.code = cc) {pc : Nat} {off : Int} {J G : Prop} (h : mm_br cd a b J G) (hd : decode cc pc = .ok (.if_icmp cd off, 3)) {H : Heap} {locs : List Loc} {ls : Array Slot} {rest : List Value} {t : Nat}
    (ht : (pc : Int) + off = t) (hJ : J → W p l e R s m args below meth c H locs cn sn Q (F0 m t ls rest)) (hG : G → W p l e R s m args below meth c H locs cn sn Q (F0 m (pc + 3) ls rest)) : W p l e R s m args below meth c H locs cn sn Q (F0 m pc ls (.int (Int32.ofInt b) :: .int (Int32.ofInt a) :: rest)) := by
  cases cd with
  | eq => exact lv_icmp_eq hx hb hd ht (fun q => hJ (h.1 ((mm_eq32 ha hb0).mp q))) (fun q => hG (h.2 (fun z => q ((mm_eq32 ha hb0).mpr z))))
  | ne => exact lv_icmp_ne hx hb hd ht (fun q => hJ (h.1 (fun z => q ((mm_eq32 ha hb0).mpr z)))) (fun q => hG (h.2 ((mm_eq32 ha hb0).mp q)))
  | lt => exact lv_icmp_lt hx hb hd ht (fun q => hJ (h.1 ((mm_lt32 ha hb0).mp q))) (fun q => hG (h.2 (Int.not_lt.mp (fun z => q ((mm_lt32 ha hb0).mpr z)))))
  | ge => exact lv_icmp_ge hx hb hd ht (fun q => hJ (h.1 ((mm_le32 hb0 ha).mp q))) (fun q => hG (h.2 (Int.not_le.mp (fun z => q ((mm_le32 hb0 ha).mpr z)))))
  | gt => exact lv_icmp_gt hx hb hd ht (fun q => hJ (h.1 ((mm_lt32 hb0 ha).mp q))) (fun q => hG (h.2 (Int.not_lt.mp (fun z => q ((mm_lt32 hb0 ha).mpr z)))))
  | le => exact lv_icmp_le hx hb hd ht (fun q => hJ (h.1 ((mm_le32 ha hb0).mp q))) (fun q => hG (h.2 (Int.not_le.mp (fun z => q ((mm_le32 ha hb0).mpr z)))))
theorem mm_br0_sound {cn sn : Nat} {cd : Jvm.ClassFile.Cond} {a : Int} (ha : mm_rng a) (hx : p.tables.exec = Jvm.exec) (hb : c.code = cc) {pc : Nat} {off : Int} {J G : Prop} (h : mm_br cd a 0 J G) (hd : decode cc pc = .ok (.ifCond cd off, 3)) {H : Heap} {locs : List Loc} {ls : Array Slot} {rest : List Value} {t : Nat}
    (ht : (pc : Int) + off = t) (hJ : J → W p l e R s m args below meth c H locs cn sn Q (F0 m t ls rest)) (hG : G → W p l e R s m args below meth c H locs cn sn Q (F0 m (pc + 3) ls rest)) : W p l e R s m args below meth c H locs cn sn Q (F0 m pc ls (.int (Int32.ofInt a) :: rest)) := by
  have hb0 := mm_rng0
  cases cd with
  | eq => exact lv_if_eq hx hb hd ht (fun q => hJ (h.1 ((mm_eq32 ha hb0).mp q))) (fun q => hG (h.2 (fun z => q ((mm_eq32 ha hb0).mpr z))))
  | ne => exact lv_if_ne hx hb hd ht (fun q => hJ (h.1 (fun z => q ((mm_eq32 ha hb0).mpr z)))) (fun q => hG (h.2 ((mm_eq32 ha hb0).mp q)))
  | lt => exact lv_if_lt hx hb hd ht (fun q => hJ (h.1 ((mm_lt32 ha hb0).mp q))) (fun q => hG (h.2 (Int.not_lt.mp (fun z => q ((mm_lt32 ha hb0).mpr z)))))
  | ge => exact lv_if_ge hx hb hd ht (fun q => hJ (h.1 ((mm_le32 hb0 ha).mp q))) (fun q => hG (h.2 (Int.not_le.mp (fun z => q ((mm_le32 hb0 ha).mpr z)))))
  | gt => exact lv_if_gt hx hb hd ht (fun q => hJ (h.1 ((mm_lt32 hb0 ha).mp q))) (fun q => hG (h.2 (Int.not_lt.mp (fun z => q ((mm_lt32 hb0 ha).mpr z)))))
  | le => exact lv_if_le hx hb hd ht (fun q => hJ (h.1 ((mm_le32 ha hb0).mp q))) (fun q => hG (h.2 (Int.not_le.mp (fun z => q ((mm_le32 ha hb0).mpr z)))))
theorem mm_ts_at {a : Int} {J : Int → Prop} : ∀ (os : List Int) (lo : Int), mm_ts a J lo os → lo ≤ a → a < lo + os.length → ∃ o, os[(a - lo).toNat]? = some o ∧ J o
  | [], lo, _, h1, h2 => by simp at h2; omega
  | o :: t, lo, h, h1, h2 => by
    by_cases q : a = lo
    · exact ⟨o, by rw [q]; simp, h.1 q⟩
    · obtain ⟨o2, h3, h4⟩ := mm_ts_at t (lo + 1) h.2 (by omega) (by simp at h2; omega)
      refine ⟨o2, ?_, h4⟩
      rw [show (a - lo).toNat = (a - (lo + 1)).toNat + 1 by omega]
      simpa using h3
theorem mm_ls_at {a : Int} {J : Int → Prop} {d : Int} : ∀ (ps : List (Int × Int)), mm_ls a J d ps → J (Op.lookupswitch.offset ps d a)
  | [], h => h
  | (k, o) :: t, h => by
    rw [Op.lookupswitch.offset_cons]
    by_cases q : a = k
    · rw [if_pos q.symm]; exact h.1 q
    · rw [if_neg (fun z => q z.symm)]; exact mm_ls_at t (h.2 q)
theorem mm_ls_pos {pc : Nat} {a d : Int} : ∀ (ps : List (Int × Int)), 0 ≤ (pc : Int) + d → (∀ q ∈ ps, 0 ≤ (pc : Int) + q.2) → 0 ≤ (pc : Int) + Op.lookupswitch.offset ps d a
  | [], h, _ => h
  | (k, o) :: t, h, h2 => by
    rw [Op.lookupswitch.offset_cons]
    split
    · exact h2 (k, o) List.mem_cons_self
    · exact mm_ls_pos t h (fun q hq => h2 q (List.mem_cons_of_mem _ hq))
theorem mm_tn {z : Int} (h : 0 ≤ z) : z = (z.toNat : Int) := by omega
theorem mm_topv {H : Heap} {locs : List Loc} {cn sn pc : Nat} {ls : Array Slot} {rest : List Value} {v v' : Value} (e1 : v' = v) (k : W p l e R s m args below meth c H locs cn sn Q (F0 m pc ls (v' :: rest))) : W p l e R s m args below meth c H locs cn sn Q (F0 m pc ls (v :: rest)) := by
  rw [← e1]
  exact k
theorem mm_upd_eq {f : Int → Int} {j v : Int} (hj : mm_rng j) (h0 : 0 ≤ j) : upd (fun k : Nat => Int32.ofInt (f (k : Int))) (Int32.ofInt j).toNatClampNeg (Int32.ofInt v) = fun k : Nat => Int32.ofInt (mm_upd f j v (k : Int)) := by
  have h1 := mm_cl hj h0
  funext k
  unfold upd mm_upd
  by_cases q : k = (Int32.ofInt j).toNatClampNeg
  · rw [if_pos q, if_pos (by rw [q]; exact h1)]
  · rw [if_neg q, if_neg (by intro z; apply q; omega)]
theorem mm_updL_eq {f : Int → Int64} {j : Int} {v : Int64} (hj : mm_rng j) (h0 : 0 ≤ j) : vp_updL (fun k : Nat => f (k : Int)) (Int32.ofInt j).toNatClampNeg v = fun k : Nat => mm_updL f j v (k : Int) := by
  have h1 := mm_cl hj h0
  funext k
  unfold vp_updL mm_updL
  by_cases q : k = (Int32.ofInt j).toNatClampNeg
  · rw [if_pos q, if_pos (by rw [q]; exact h1)]
  · rw [if_neg q, if_neg (by intro z; apply q; omega)]
theorem mm_okE_upd {k n : Nat} {f : Int → Int} {j v : Int} (h : mm_okE (eI k n f)) (hv : mm_rng v) (h1 : k = 1 → v = 0 ∨ v = 1) (h2 : k = 2 → -128 ≤ v ∧ v ≤ 127) : mm_okE (eI k n (mm_upd f j v)) := by
  obtain ⟨a, b, d, d2, d3⟩ := h
  refine ⟨a, fun i hi => ?_, fun hk i hi => ?_, fun hk i hi => ?_, d3⟩
  · unfold mm_upd; split
    · exact hv
    · exact b i hi
  · unfold mm_upd; split
    · exact h1 hk
    · exact d hk i hi
  · unfold mm_upd; split
    · exact h2 hk
    · exact d2 hk i hi
theorem mm_okH_putR {h : HP} {H H1 : Heap} {r : Nat} {f : Int → Int} (hH : mm_okH g h H) (hr : r < h.2.2.2.1) (hf : ∀ j : Nat, j < 220 → mm_rng (f j)) (hP : va_P g.1 vwCl ((mm_wl g h).set (h.2.1.length + (h.2.2.1.length + r)) (mm_ar g r, mm_row g f)) H1) (hD : va_D (mm_A g) ((mm_wl g h).set (h.2.1.length + (h.2.2.1.length + r)) (mm_ar g r, mm_row g f))) (hz : H1.size = H.size) : mm_okH g (mm_setR h r f) H1 := by
  rw [mm_wl_setR g hr] at hP hD
  obtain ⟨-, -, h1, h2, h3, h4, h5⟩ := hH
  refine ⟨hP, hD, h1, h2, ?_, by rw [hz]; exact h4, fun t ht => by rw [hz]; exact h5 t ht⟩
  intro r2 hr2 j hj
  show mm_rng (mm_updR h.2.2.2.2 r f r2 j)
  unfold mm_updR
  split
  · exact hf j hj
  · exact h3 r2 hr2 j hj
theorem mm_put_sound (C : mm_Ctx p R s m args meth c cc own g E) {pc i a ci k kd cn sn : Nat} {fin : Bool} {fs r : List MV} {v : MV} {lv : LV} {h : HP} (hd : decode cc pc = .ok (.putfield i, 3)) (hk : mm_look (ne_ft E) i = some (ci, k)) (hg : mm_get h a = some (eO ci fs)) (hlen : k < fs.length) (hfk : mm_fk ci k = some (kd, fin)) (hfin : (fin && !(ne_ini E)) = false)
    (hty : ∀ q : vw_C, vwCl[ci]? = some q → ∃ ty, parseFieldDescriptor (q.2.1 k).2.2.1 = some ty ∧ narrow ty (mm_cv g v) = mm_cv g v ∧ fits ty (mm_cv g v) = true) (hv : mm_okV v) (hkk : mm_K p l e R s m args below meth c Q g (pc + 3) lv r (mm_set h a (eO ci (fs.set k v))) cn sn)
    {H : Heap} {locs : List Loc} {ls : Array Slot} (hH : mm_okH g h H) (hS : va_S (mm_A g) s.heap H locs) (hL : mm_okL g lv ls c.maxLocals) (hs : mm_okS r) : W p l e R s m args below meth c H locs cn sn Q (F0 m pc ls (mm_cv g v :: .ref (mm_ad g a) :: r.map (mm_cv g))) := by
  obtain ⟨hx, hb, hown, hts, hK, hB, hini, hlt, hft, hro, hgs, hoi, hoiw⟩ := C
  obtain ⟨⟨C, T, N⟩, hc, hkN, hlk⟩ := hft _ _ _ hk
  obtain ⟨q2, hc2, -, hfin2, -⟩ := mm_fkok hfk
  have eq2 : q2 = (C, T, N) := Option.some.inj (hc2.symm.trans hc)
  subst eq2
  obtain ⟨hin, ⟨ty0, hty0⟩, hnm⟩ := mm_cok _ _ hc
  obtain ⟨ty, hty1, hty2, hty3⟩ := hty _ hc
  have hf : (T k).2.2.2 = false ∨ ((T k).2.2.2 = true ∧ meth.name = "<init>" ∧ (T k).1 = own) := by
    cases hq : fin with
    | false => left; exact hfin2.trans hq
    | true =>
      right
      rw [hq] at hfin
      have hi : ne_ini E = true := by
        cases hz : ne_ini E with
        | true => rfl
        | false => rw [hz] at hfin; cases hfin
      obtain ⟨n1, n2⟩ := hini hi
      exact ⟨hfin2.trans hq, n1, n2 _ _ _ _ hk hc⟩
  refine mm_vput hx hb hts hin ty0 hty0 hnm hown hK hH.1 hH.2.1 hS _ (mm_wl_get g hg) hc k hkN (hts _ hlk) hf hty1 hty2 hty3 (by rw [List.length_map]; exact hlen) hd (fun H1 locs1 hP1 hD1 hS1 hz => ?_)
  rw [← List.map_set] at hP1 hD1
  exact hkk H1 locs1 ls (mm_okH_put (e1 := eO ci (fs.set k v)) hH hg (mm_okS_set fs k v (mm_get_ok hH hg) hv) hP1 hD1 hz) hS1 hL hs
set_option maxHeartbeats 8000000 in
theorem mm_w1_sound (C : mm_Ctx p R s m args meth c cc own g E) {ins : Instr} {len pc : Nat} (hd : decode cc pc = .ok (ins, len)) (hl : mm_lenok ins len = true) (hpos : mm_insok pc ins = true) {lv : LV} {st : List MV} {h : HP} {cn sn : Nat}
    {go : LV → List MV → HP → Nat → Nat → Prop} {jm : Int → LV → List MV → HP → Nat → Nat → Prop} {N : Option MV → HP → Prop} {X : String → HP → Prop} (hw : mm_w1 E ins lv st h cn sn go jm N X)
    (hgo : ∀ (lv : LV) (st : List MV) (h : HP) (cn sn : Nat), go lv st h cn sn → mm_K p l e R s m args below meth c Q g (pc + len) lv st h cn sn)
    (hjm : ∀ (o : Int) (lv : LV) (st : List MV) (h : HP) (cn sn : Nat), jm o lv st h cn sn → mm_K p l e R s m args below meth c Q g ((pc : Int) + o).toNat lv st h cn sn)
    (hret : ∀ (pc : Nat) (ins : Instr) (r : Option MV) (h : HP) (cn sn : Nat) (H : Heap) (locs : List Loc) (ls : Array Slot), decode cc pc = .ok (ins, 1) → mm_rk (ne_rk E) ins r → N r h → cn ≤ ne_rc E → sn ≤ ne_rs E → mm_okH g h H → va_S (mm_A g) s.heap H locs → (∀ v, r = some v → mm_okV v) → W p l e R s m args below meth c H locs cn sn Q (F0 m pc ls (r.toList.map (mm_cv g))))
    (hcall : ∀ (pc : Nat) (ins : Instr) (i n mc ms : Nat) (th : Bool) (ck : Nat × Nat) (T : Tr), decode cc pc = .ok (ins, 3) → mm_look (ne_ct E) i = some (n, mc, ms, th, ck, T) → ∀ (av rest : List MV) (lv : LV) (h : HP) (cn sn : Nat) (N' : Option MV → HP → Prop), ((ins = .invokevirtual i ∧ mm_rc 0 ck av h = true) ∨ (ins = .invokestatic i ∧ mm_rc 1 ck av h = true) ∨ (ins = .invokespecial i ∧ mm_rc 2 ck av h = true)) → av.length = n → mm_wd rest ≤ 8 → cn + mc ≤ ne_rc E → sn + ms ≤ ne_rs E → T av h N' (match th with | true => X | false => fun _ _ => False) → (∀ (r : Option MV) (h' : HP), N' r h' → mm_K p l e R s m args below meth c Q g (pc + 3) lv (r.toList ++ rest) h' (cn + mc) (sn + ms)) → mm_K p l e R s m args below meth c Q g pc lv (av.reverse ++ rest) h cn sn)
    (hal : ∀ (lv : LV) (st st' : List MV) (h h' : HP) (cn sn a b : Nat), mm_alloc E ins st h = some (st', h', a, b) → cn + a ≤ ne_rc E → sn + b ≤ ne_rs E → mm_K p l e R s m args below meth c Q g (pc + len) lv st' h' (cn + a) (sn + b) → mm_K p l e R s m args below meth c Q g pc lv st h cn sn) :
    mm_K p l e R s m args below meth c Q g pc lv st h cn sn := by
  obtain ⟨hx, hb, hown, hts, hK, hB, hini, hlt, hft, hro, hgs, hoi, hoiw⟩ := C
  have L1 : ∀ {n : Nat}, Nat.beq len n = true → len = n := fun h => Nat.eq_of_beq_eq_true h
  unfold mm_w1 at hw
  split at hw
  · -- the stack alone
    rename_i st' hp
    intro H locs ls hH hS hL hs
    exact mm_p0_sound hx hb hown hlt hd hl hp hs (fun hs' => hgo _ _ _ _ _ hw H locs ls hH hS hL hs')
  · split at hw
    · rename_i P st' hp
      intro H locs ls hH hS hL hs
      exact mm_p1_sound hx hb hd hl hp hw.1 hs (fun hs' => hgo _ _ _ _ _ hw.2 H locs ls hH hS hL hs')
    · split at hw
      · -- iload
        have e1 := L1 (n := 2) hl
        subst e1
        split at hw
        · rename_i z hz
          intro H locs ls hH hS hL hs
          obtain ⟨h1, h2⟩ := mm_ld hL (mm_ldI_t hz)
          exact lv_iload hx hb hd h1 (hgo _ _ _ _ _ hw H locs ls hH hS hL ⟨h2, hs⟩)
        · cases hw
      · have e1 := L1 (n := 1) hl
        subst e1
        split at hw
        · rename_i z hz
          intro H locs ls hH hS hL hs
          obtain ⟨h1, h2⟩ := mm_ld hL (mm_ldI_t hz)
          exact lv_iload_n hx hb hd rfl h1 (hgo _ _ _ _ _ hw H locs ls hH hS hL ⟨h2, hs⟩)
        · cases hw
      · have e1 := L1 (n := 2) hl
        subst e1
        split at hw
        · rename_i z hz
          intro H locs ls hH hS hL hs
          obtain ⟨h1, h2⟩ := mm_ld hL (mm_ldL_t hz)
          exact lv_lload hx hb hd h1 (hgo _ _ _ _ _ hw H locs ls hH hS hL ⟨h2, hs⟩)
        · cases hw
      · have e1 := L1 (n := 1) hl
        subst e1
        split at hw
        · rename_i z hz
          intro H locs ls hH hS hL hs
          obtain ⟨h1, h2⟩ := mm_ld hL (mm_ldL_t hz)
          exact lv_lload_n hx hb hd rfl h1 (hgo _ _ _ _ _ hw H locs ls hH hS hL ⟨h2, hs⟩)
        · cases hw
      · -- aload
        have e1 := L1 (n := 2) hl
        subst e1
        split at hw
        · rename_i z hz
          intro H locs ls hH hS hL hs
          obtain ⟨h1, h2⟩ := mm_ld hL (mm_ldA_t hz)
          have kk := hgo _ _ _ _ _ hw H locs ls hH hS hL ⟨h2, hs⟩
          rcases mm_cvA (g := g) z with q | ⟨a, q⟩
          · rw [q] at h1
            rw [List.map_cons, q] at kk
            exact lv_aloadN hx hb hd h1 kk
          · rw [q] at h1
            rw [List.map_cons, q] at kk
            exact lv_aload hx hb hd h1 kk
        · cases hw
      · have e1 := L1 (n := 1) hl
        subst e1
        split at hw
        · rename_i z hz
          intro H locs ls hH hS hL hs
          obtain ⟨h1, h2⟩ := mm_ld hL (mm_ldA_t hz)
          have kk := hgo _ _ _ _ _ hw H locs ls hH hS hL ⟨h2, hs⟩
          rcases mm_cvA (g := g) z with q | ⟨a, q⟩
          · rw [q] at h1
            rw [List.map_cons, q] at kk
            exact lv_aload_nN hx hb hd rfl h1 kk
          · rw [q] at h1
            rw [List.map_cons, q] at kk
            exact lv_aload_n hx hb hd rfl h1 kk
        · cases hw
      · -- istore
        have e1 := L1 (n := 2) hl
        subst e1
        split at hw
        · split at hw
          · rename_i hi
            intro H locs ls hH hS hL hs
            have hi2 := mm_blt_t hi
            rw [hL.2.1] at hi2
            exact lv_istore hx hb hd hL.1 hi2 rfl (fun ls' hl' => hgo _ _ _ _ _ hw H locs ls' hH hS (mm_okL_set hL hs.1 hl' rfl) hs.2)
          · cases hw
        · cases hw
      · have e1 := L1 (n := 1) hl
        subst e1
        split at hw
        · split at hw
          · rename_i hi
            intro H locs ls hH hS hL hs
            have hi2 := mm_blt_t hi
            rw [hL.2.1] at hi2
            exact lv_istore_n hx hb hd rfl hL.1 hi2 rfl (fun ls' hl' => hgo _ _ _ _ _ hw H locs ls' hH hS (mm_okL_set hL hs.1 hl' rfl) hs.2)
          · cases hw
        · cases hw
      · have e1 := L1 (n := 2) hl
        subst e1
        split at hw
        · split at hw
          · rename_i hi
            intro H locs ls hH hS hL hs
            have hi2 := mm_blt_t hi
            rw [hL.2.1] at hi2
            exact lv_lstore hx hb hd hL.1 hi2 rfl (fun ls' hl' => hgo _ _ _ _ _ hw H locs ls' hH hS (mm_okL_set2 hL hs.1 hl' rfl) hs.2)
          · cases hw
        · cases hw
      · have e1 := L1 (n := 1) hl
        subst e1
        split at hw
        · split at hw
          · rename_i hi
            intro H locs ls hH hS hL hs
            have hi2 := mm_blt_t hi
            rw [hL.2.1] at hi2
            exact lv_lstore_n hx hb hd rfl hL.1 hi2 rfl (fun ls' hl' => hgo _ _ _ _ _ hw H locs ls' hH hS (mm_okL_set2 hL hs.1 hl' rfl) hs.2)
          · cases hw
        · cases hw
      · -- astore
        have e1 := L1 (n := 2) hl
        subst e1
        split at hw
        · rename_i x r _ _
          split at hw
          · rename_i hi
            intro H locs ls hH hS hL hs
            have hi2 := mm_blt_t hi
            rw [hL.2.1] at hi2
            have kk := fun ls' hl' => hgo _ _ _ _ _ hw H locs ls' hH hS (mm_okL_set (v := .inr (.inr x)) hL hs.1 hl' rfl) hs.2
            rw [List.map_cons]
            rcases mm_cvA (g := g) x with q | ⟨a, q⟩
            · rw [q] at kk ⊢
              exact lv_astoreN hx hb hd hL.1 hi2 rfl kk
            · rw [q] at kk ⊢
              exact lv_astore hx hb hd hL.1 hi2 rfl kk
          · cases hw
        · cases hw
      · have e1 := L1 (n := 1) hl
        subst e1
        split at hw
        · rename_i x r _ _
          split at hw
          · rename_i hi
            intro H locs ls hH hS hL hs
            have hi2 := mm_blt_t hi
            rw [hL.2.1] at hi2
            have kk := fun ls' hl' => hgo _ _ _ _ _ hw H locs ls' hH hS (mm_okL_set (v := .inr (.inr x)) hL hs.1 hl' rfl) hs.2
            rw [List.map_cons]
            rcases mm_cvA (g := g) x with q | ⟨a, q⟩
            · rw [q] at kk ⊢
              exact lv_astore_nN hx hb hd rfl hL.1 hi2 rfl kk
            · rw [q] at kk ⊢
              exact lv_astore_n hx hb hd rfl hL.1 hi2 rfl kk
          · cases hw
        · cases hw
      · -- iinc
        have e1 := L1 (n := 3) hl
        subst e1
        split at hw
        · rename_i i kc _ _ _ z hz
          intro H locs ls hH hS hL hs
          have hz2 := mm_ldI_t hz
          obtain ⟨h1, h2⟩ := mm_ld hL hz2
          obtain ⟨kp, hkp⟩ := List.getElem?_of_mem ((mm_lvl_mem g lv 0 i _).mpr ⟨i, mI z, by omega, hz2, rfl⟩)
          have hi2 : i < lv.length := (List.getElem?_eq_some_iff.mp hz2).1
          rw [hL.2.1] at hi2
          exact lv_iinc (v := Int32.ofInt (z + kc)) hx hb hd hL.1 hkp (Int32.ofInt_add z kc).symm hi2 rfl (fun ls' hl' => hgo _ _ _ _ _ hw.2 H locs ls' hH hS (mm_okL_set hL hw.1 hl' rfl) hs)
        · cases hw
      · -- ifCond
        have e1 := L1 (n := 3) hl
        subst e1
        split at hw
        · intro H locs ls hH hS hL hs
          have hp2 := of_decide_eq_true (show decide _ = true from hpos)
          exact mm_br0_sound hs.1 hx hb hw hd (mm_tn hp2) (fun q => hjm _ _ _ _ _ _ q H locs ls hH hS hL hs.2) (fun q => hgo _ _ _ _ _ q H locs ls hH hS hL hs.2)
        · cases hw
      · have e1 := L1 (n := 3) hl
        subst e1
        split at hw
        · intro H locs ls hH hS hL hs
          have hp2 := of_decide_eq_true (show decide _ = true from hpos)
          exact mm_br_sound hs.2.1 hs.1 hx hb hw hd (mm_tn hp2) (fun q => hjm _ _ _ _ _ _ q H locs ls hH hS hL hs.2.2) (fun q => hgo _ _ _ _ _ q H locs ls hH hS hL hs.2.2)
        · cases hw
      · -- goto
        have e1 := L1 (n := 3) hl
        subst e1
        intro H locs ls hH hS hL hs
        have hp2 := of_decide_eq_true (show decide _ = true from hpos)
        exact lv_goto hx hb hd (mm_tn hp2) (hjm _ _ _ _ _ _ hw H locs ls hH hS hL hs)
      · -- tableswitch
        rename_i d lo hi os _ _
        unfold mm_insok at hpos
        simp only [Bool.and_eq_true, decide_eq_true_eq, List.all_eq_true] at hpos
        split at hw
        · rename_i a r _ _
          split at hw
          · rename_i hsz
            have hsz2 : hi + 1 = lo + (os.size : Int) := of_decide_eq_true hsz
            intro H locs ls hH hS hL hs
            have ha : (Int32.ofInt a).toInt = a := mm_ti hs.1
            by_cases ho : a < lo ∨ hi < a
            · exact lv_tableOut hx hb hd (by rw [ha]; exact ho) (mm_tn hpos.1) (hjm _ _ _ _ _ _ (hw.1 ho) H locs ls hH hS hL hs.2)
            · obtain ⟨o, h1, h2⟩ := mm_ts_at os.toList lo hw.2 (by omega) (by rw [Array.length_toList]; omega)
              have h3 : os[(a - lo).toNat]? = some o := by rw [← Array.getElem?_toList]; exact h1
              have hp2 := hpos.2 o (List.mem_of_getElem? h1)
              exact lv_tableIn hx hb hd (by rw [ha]; omega) (by rw [ha]; omega) (by rw [ha]; exact h3) (mm_tn hp2) (hjm _ _ _ _ _ _ h2 H locs ls hH hS hL hs.2)
          · cases hw
        · cases hw
      · -- lookupswitch
        rename_i d ps _ _
        unfold mm_insok at hpos
        simp only [Bool.and_eq_true, decide_eq_true_eq, List.all_eq_true] at hpos
        split at hw
        · rename_i a r _ _
          split at hw
          · rename_i hord
            intro H locs ls hH hS hL hs
            have ha : (Int32.ofInt a).toInt = a := mm_ti hs.1
            exact lv_lookup hx hb hd hord (by rw [ha]) (mm_tn (mm_ls_pos ps.toList hpos.1 hpos.2)) (hjm _ _ _ _ _ _ (mm_ls_at ps.toList hw) H locs ls hH hS hL hs.2)
          · cases hw
        · cases hw
      · -- getfield
        have e1 := L1 (n := 3) hl
        subst e1
        split at hw
        · split at hw
          · rename_i ci k hk
            split at hw
            · rename_i cj fs hg
              split at hw
              · rename_i hbq
                split at hw
                · rename_i v hv
                  intro H locs ls hH hS hL hs
                  have ec := Nat.eq_of_beq_eq_true hbq
                  subst ec
                  obtain ⟨⟨C, T, N⟩, hc, hkN, hlk⟩ := hft _ _ _ hk
                  have hv2 : (fs.map (mm_cv g))[k]? = some (mm_cv g v) := by rw [List.getElem?_map, hv]; rfl
                  exact va_get hx hb hts (mm_cok _ _ hc).1 hown hK hH.1 _ (mm_wl_get g hg) hc k hkN (hts _ hlk) (fun _ h9 => h9) hv2 hd (hgo _ _ _ _ _ hw H locs ls hH hS hL ⟨mm_okS_get fs k v (mm_get_ok hH hg) hv, hs.2⟩)
                · cases hw
              · cases hw
            · cases hw
          · cases hw
        · cases hw
      · -- putfield
        have e1 := L1 (n := 3) hl
        subst e1
        have C' : mm_Ctx p R s m args meth c cc own g E := ⟨hx, hb, hown, hts, hK, hB, hini, hlt, hft, hro, hgs, hoi, hoiw⟩
        split at hw
        · split at hw
          · rename_i ci k hk
            split at hw
            · rename_i cj fs hg
              split at hw
              · rename_i hbq
                rw [Bool.and_eq_true] at hbq
                have ec := Nat.eq_of_beq_eq_true hbq.1
                subst ec
                have hkl := mm_blt_t hbq.2
                split at hw
                · rename_i kd fin hfk
                  split at hw
                  · cases hw
                  · rename_i hfin
                    obtain ⟨q2, hc2, -, -, htk⟩ := mm_fkok hfk
                    split at hw
                    · split at hw
                      · intro H locs ls hH hS hL hs
                        exact mm_put_sound C' hd hk hg hkl hfk hfin (fun q hq => ⟨.int, by rw [Option.some.inj (hq.symm.trans hc2)]; exact mm_tyk0 htk, rfl, rfl⟩) hs.1 (hgo _ _ _ _ _ hw) hH hS hL hs.2.2
                      · intro H locs ls hH hS hL hs
                        refine mm_put_sound C' hd hk hg hkl hfk hfin (fun q hq => ⟨.boolean, by rw [Option.some.inj (hq.symm.trans hc2)]; exact mm_tyk1 htk, ?_, ?_⟩) hs.1 (hgo _ _ _ _ _ hw.2) hH hS hL hs.2.2
                        · rcases hw.1 with rfl | rfl
                          · exact (by decide +kernel : narrow .boolean (.int (Int32.ofInt 0)) = .int (Int32.ofInt 0))
                          · exact (by decide +kernel : narrow .boolean (.int (Int32.ofInt 1)) = .int (Int32.ofInt 1))
                        · rcases hw.1 with rfl | rfl
                          · exact (by decide +kernel : fits .boolean (.int (Int32.ofInt 0)) = true)
                          · exact (by decide +kernel : fits .boolean (.int (Int32.ofInt 1)) = true)
                      · cases hw
                    · split at hw
                      · intro H locs ls hH hS hL hs
                        obtain ⟨ty, ht1, ht2⟩ := mm_tyk2 htk
                        exact mm_put_sound C' hd hk hg hkl hfk hfin (fun q hq => ⟨ty, by rw [Option.some.inj (hq.symm.trans hc2)]; exact ht1, (ht2 _ (mm_cvA _)).1, (ht2 _ (mm_cvA _)).2⟩) hs.1 (hgo _ _ _ _ _ hw) hH hS hL hs.2.2
                      · cases hw
                    · cases hw
                · cases hw
              · cases hw
            · cases hw
          · cases hw
        · cases hw
      · -- getstatic
        have e1 := L1 (n := 3) hl
        subst e1
        split at hw
        · rename_i a ha
          intro H locs ls hH hS hL hs
          obtain ⟨hge, C, n, d, hZ, hlk⟩ := hgs _ _ ha
          have had : mm_ad g a = g.2.2.2 a := by
            unfold mm_ad
            cases hq : Nat.blt a 2000 with
            | true => exact absurd (mm_blt_t hq) (by omega)
            | false => rfl
          refine va_gets hx hb hZ hS hown hlk (fun _ h9 => h9) hd ?_
          rw [← had]
          exact hgo _ _ _ _ _ hw H locs ls hH hS hL ⟨trivial, hs⟩
        · cases hw
      · -- iaload
        have e1 := L1 (n := 1) hl
        subst e1
        split at hw
        · rename_i j a r _ _
          split at hw
          · split at hw
            · rename_i n f hg
              intro H locs ls hH hS hL hs
              have hok : mm_okE (eI 0 n f) := mm_get_ok hH hg
              have hcl := mm_cl hs.1 hw.1.1
              refine va_iald hx hb hK hH.1 _ 0 (mm_wl_get g hg) rfl (mm_in hs.1 hw.1.1 hw.1.2) hd (mm_topv (v' := .int (Int32.ofInt (f j))) (by rw [hcl]) (hgo _ _ _ _ _ hw.2 H locs ls hH hS hL ⟨?_, hs.2.2⟩))
              have := hok.2.1 j.toNat (by omega)
              rw [Int.toNat_of_nonneg hw.1.1] at this
              exact this
            · cases hw
          · rename_i hge
            split at hw
            · rename_i n f hg
              intro H locs ls hH hS hL hs
              obtain ⟨h2, hX, hbl, hbA, hn, hr⟩ := hro _ _ _ hg
              have hcl := mm_cl hs.1 hw.1.1
              have had : mm_ad g a = g.2.2.2 a := by
                unfold mm_ad
                rw [hge]
              have kk := hgo _ _ _ _ _ hw.2 H locs ls hH hS hL ⟨by
                have := hr j.toNat (by omega)
                rw [Int.toNat_of_nonneg hw.1.1] at this
                exact this, hs.2.2⟩
              have kk2 := va_sld hx hb hX hbl hbA hS (mm_in hs.1 hw.1.1 hw.1.2) hd (mm_topv (v' := .int (Int32.ofInt (f j))) (by rw [hcl]) kk)
              rw [← had] at kk2
              exact kk2
            · cases hw
        · rename_i j q r _ _
          intro H locs ls hH hS hL hs
          have hcl := mm_cl hs.1 hw.1.2.1
          refine va_iald hx hb hK hH.1 _ 0 (mm_wl_getR g hw.1.1) rfl (mm_in (n := 220) hs.1 hw.1.2.1 (by have := hw.1.2.2; omega)) hd (mm_topv (v' := .int (Int32.ofInt (h.2.2.2.2 q j))) (by rw [hcl]) (hgo _ _ _ _ _ hw.2 H locs ls hH hS hL ⟨?_, hs.2.2⟩))
          have := hH.2.2.2.2.1 q hw.1.1 j.toNat (by omega)
          rw [Int.toNat_of_nonneg hw.1.2.1] at this
          exact this
        · cases hw
      · -- baload
        have e1 := L1 (n := 1) hl
        subst e1
        split at hw
        · rename_i j a r _ _
          split at hw
          · rename_i k n f hg
            split at hw
            · intro H locs ls hH hS hL hs
              have hok : mm_okE (eI 1 n f) := mm_get_ok hH hg
              have hcl := mm_cl hs.1 hw.1.1
              refine va_zald hx hb hK hH.1 _ 1 (mm_wl_get g hg) rfl (mm_in hs.1 hw.1.1 hw.1.2) hd (mm_topv (v' := .int (Int32.ofInt (f j))) (by rw [hcl]) (hgo _ _ _ _ _ hw.2 H locs ls hH hS hL ⟨?_, hs.2.2⟩))
              have := hok.2.1 j.toNat (by omega)
              rw [Int.toNat_of_nonneg hw.1.1] at this
              exact this
            · intro H locs ls hH hS hL hs
              have hok : mm_okE (eI 2 n f) := mm_get_ok hH hg
              have hcl := mm_cl hs.1 hw.1.1
              refine va_bald hx hb hK hH.1 _ 2 (mm_wl_get g hg) rfl (mm_in hs.1 hw.1.1 hw.1.2) hd (mm_topv (v' := .int (Int32.ofInt (f j))) (by rw [hcl]) (hgo _ _ _ _ _ hw.2 H locs ls hH hS hL ⟨?_, hs.2.2⟩))
              have := hok.2.1 j.toNat (by omega)
              rw [Int.toNat_of_nonneg hw.1.1] at this
              exact this
            · cases hw
          · cases hw
        · cases hw
      · -- laload
        have e1 := L1 (n := 1) hl
        subst e1
        split at hw
        · rename_i j a r _ _
          split at hw
          · rename_i n f hg
            intro H locs ls hH hS hL hs
            have hcl := mm_cl hs.1 hw.1.1
            exact va_lald hx hb hK hH.1 _ 3 (mm_wl_get g hg) rfl (mm_in hs.1 hw.1.1 hw.1.2) hd (mm_topv (v' := .long (f j)) (by rw [hcl]) (hgo _ _ _ _ _ hw.2 H locs ls hH hS hL ⟨trivial, hs.2.2⟩))
          · cases hw
        · cases hw
      · -- aaload
        have e1 := L1 (n := 1) hl
        subst e1
        split at hw
        · rename_i j a r _ _
          split at hw
          · rename_i n b hg
            intro H locs ls hH hS hL hs
            have hcl := mm_cl hs.1 hw.1.1
            exact mm_vaald hx hb hK hH.1 _ 4 (mm_wl_get g hg) rfl (mm_in hs.1 hw.1.1 hw.1.2) hd (mm_topv (v' := .ref (mm_ar g (b + j.toNat))) (by
              show Value.ref (mm_ar g (b + j.toNat)) = va_rf (some (mm_ar g (b + (Int32.ofInt j).toNatClampNeg)))
              rw [show (Int32.ofInt j).toNatClampNeg = j.toNat by omega]
              rfl) (hgo _ _ _ _ _ hw.2 H locs ls hH hS hL ⟨trivial, hs.2.2⟩))
          · cases hw
        · cases hw
      · -- iastore
        have e1 := L1 (n := 1) hl
        subst e1
        split at hw
        · rename_i v j a r _ _
          split at hw
          · split at hw
            · rename_i n f hg
              intro H locs ls hH hS hL hs
              have hok : mm_okE (eI 0 n f) := mm_get_ok hH hg
              refine mm_viast hx hb hK hH.1 hH.2.1 hS _ 0 (mm_wl_get g hg) rfl (mm_in hs.2.1 hw.1.1 hw.1.2) hd (fun H1 locs1 hP1 hD1 hS1 hz => ?_)
              rw [mm_upd_eq hs.2.1 hw.1.1] at hP1 hD1
              exact hgo _ _ _ _ _ hw.2 H1 locs1 ls (mm_okH_put (e1 := eI 0 n (mm_upd f j v)) hH hg (mm_okE_upd hok hs.1 (by intro z; cases z) (by intro z; cases z)) hP1 hD1 hz) hS1 hL hs.2.2.2
            · cases hw
          · cases hw
        · rename_i v j q r _ _
          intro H locs ls hH hS hL hs
          refine mm_viast hx hb hK hH.1 hH.2.1 hS _ 0 (mm_wl_getR g hw.1.1) rfl (mm_in (n := 220) hs.2.1 hw.1.2.1 (by have := hw.1.2.2; omega)) hd (fun H1 locs1 hP1 hD1 hS1 hz => ?_)
          rw [mm_upd_eq hs.2.1 hw.1.2.1] at hP1 hD1
          refine hgo _ _ _ _ _ hw.2 H1 locs1 ls (mm_okH_putR hH hw.1.1 (fun i hi => ?_) hP1 hD1 hz) hS1 hL hs.2.2.2
          unfold mm_upd
          split
          · exact hs.1
          · exact hH.2.2.2.2.1 q hw.1.1 i hi
        · cases hw
      · -- bastore
        have e1 := L1 (n := 1) hl
        subst e1
        split at hw
        · rename_i v j a r _ _
          split at hw
          · rename_i k n f hg
            split at hw
            · intro H locs ls hH hS hL hs
              have hok : mm_okE (eI 1 n f) := mm_get_ok hH hg
              refine mm_vzast hx hb hK hH.1 hH.2.1 hS _ 1 (mm_wl_get g hg) rfl (mm_in hs.2.1 hw.1.2.1 hw.1.2.2) hd (fun H1 locs1 hP1 hD1 hS1 hz => ?_)
              have hnar : vp_nar .boolean (Int32.ofInt v) = Int32.ofInt v := by
                rcases hw.1.1 with rfl | rfl
                · exact (by decide +kernel : vp_nar .boolean (Int32.ofInt 0) = Int32.ofInt 0)
                · exact (by decide +kernel : vp_nar .boolean (Int32.ofInt 1) = Int32.ofInt 1)
              rw [hnar, mm_upd_eq hs.2.1 hw.1.2.1] at hP1 hD1
              exact hgo _ _ _ _ _ hw.2 H1 locs1 ls (mm_okH_put (e1 := eI 1 n (mm_upd f j v)) hH hg (mm_okE_upd hok hs.1 (fun _ => hw.1.1) (by intro z; cases z)) hP1 hD1 hz) hS1 hL hs.2.2.2
            · intro H locs ls hH hS hL hs
              have hok : mm_okE (eI 2 n f) := mm_get_ok hH hg
              refine mm_vbast hx hb hK hH.1 hH.2.1 hS _ 2 (mm_wl_get g hg) rfl (mm_in hs.2.1 hw.1.2.1 hw.1.2.2) hd (fun H1 locs1 hP1 hD1 hS1 hz => ?_)
              have hnar : vp_nar .byte (Int32.ofInt v) = Int32.ofInt v := by
                rw [vp_nar_byte, Int32.toInt8_ofInt, mm_b8 hw.1.1]
              rw [hnar, mm_upd_eq hs.2.1 hw.1.2.1] at hP1 hD1
              exact hgo _ _ _ _ _ hw.2 H1 locs1 ls (mm_okH_put (e1 := eI 2 n (mm_upd f j v)) hH hg (mm_okE_upd hok hs.1 (by intro z; cases z) (fun _ => hw.1.1)) hP1 hD1 hz) hS1 hL hs.2.2.2
            · cases hw
          · cases hw
        · cases hw
      · -- lastore
        have e1 := L1 (n := 1) hl
        subst e1
        split at hw
        · rename_i v j a r _ _
          split at hw
          · rename_i n f hg
            intro H locs ls hH hS hL hs
            refine mm_vlast hx hb hK hH.1 hH.2.1 hS _ 3 (mm_wl_get g hg) rfl (mm_in hs.2.1 hw.1.1 hw.1.2) hd (fun H1 locs1 hP1 hD1 hS1 hz => ?_)
            rw [mm_updL_eq hs.2.1 hw.1.1] at hP1 hD1
            exact hgo _ _ _ _ _ hw.2 H1 locs1 ls (mm_okH_put (e1 := eL n (mm_updL f j v)) hH hg (mm_get_ok (e0 := eL n f) hH hg) hP1 hD1 hz) hS1 hL hs.2.2.2
          · cases hw
        · cases hw
      · -- arraylength
        have e1 := L1 (n := 1) hl
        subst e1
        split at hw
        · rename_i a r _ _
          split at hw
          · split at hw
            · rename_i kd n f hg
              intro H locs ls hH hS hL hs
              have hok : mm_okE (eI kd n f) := mm_get_ok hH hg
              have hn := hok.2.2.2.2
              have kk := hgo _ _ _ _ _ hw H locs ls hH hS hL ⟨by unfold mm_okV mm_rng; omega, hs.2⟩
              rcases hok.1 with rfl | rfl | rfl
              · exact va_alen hx hb hK hH.1 _ 0 (mm_wl_get g hg) rfl (Int32.ofInt_eq_ofNat).symm hd kk
              · exact va_alen hx hb hK hH.1 _ 1 (mm_wl_get g hg) rfl (Int32.ofInt_eq_ofNat).symm hd kk
              · exact va_alen hx hb hK hH.1 _ 2 (mm_wl_get g hg) rfl (Int32.ofInt_eq_ofNat).symm hd kk
            · rename_i n f hg
              intro H locs ls hH hS hL hs
              have hn : n < 2147483648 := mm_get_ok hH hg
              exact va_alen hx hb hK hH.1 _ 3 (mm_wl_get g hg) rfl (Int32.ofInt_eq_ofNat).symm hd (hgo _ _ _ _ _ hw H locs ls hH hS hL ⟨by unfold mm_okV mm_rng; omega, hs.2⟩)
            · cases hw
          · rename_i hge
            split at hw
            · rename_i n f hg
              intro H locs ls hH hS hL hs
              obtain ⟨h2, hX, hbl, hbA, hn, hr⟩ := hro _ _ _ hg
              have had : mm_ad g a = g.2.2.2 a := by
                unfold mm_ad
                rw [hge]
              have kk := va_slen hx hb hX hbl hbA hS hd (mm_topv (v' := .int (Int32.ofInt (n : Int))) (by rw [Int32.ofInt_eq_ofNat]) (hgo _ _ _ _ _ hw H locs ls hH hS hL ⟨by unfold mm_okV mm_rng; omega, hs.2⟩))
              rw [← had] at kk
              exact kk
            · cases hw
        · rename_i q r _ _
          intro H locs ls hH hS hL hs
          exact va_alen hx hb hK hH.1 _ 0 (mm_wl_getR g hw.1) rfl rfl hd (hgo _ _ _ _ _ hw.2 H locs ls hH hS hL ⟨by unfold mm_okV mm_rng; omega, hs.2⟩)
        · cases hw
      · -- invokevirtual
        have e1 := L1 (n := 3) hl
        subst e1
        split at hw
        · rename_i n mc ms th ck T hT
          split at hw
          · rename_i hc
            simp only [Bool.and_eq_true] at hc
            have q1 := Nat.le_of_ble_eq_true hc.1
            have hr := hcall pc _ _ n mc ms th ck T hd hT (st.take n).reverse (st.drop n) lv h cn sn _ (Or.inl ⟨rfl, hc.2.2.2.2⟩) (by rw [List.length_reverse, List.length_take]; omega) (Nat.le_of_ble_eq_true hc.2.1) (Nat.le_of_ble_eq_true hc.2.2.1) (Nat.le_of_ble_eq_true hc.2.2.2.1) hw (fun r h' hn => hgo _ _ _ _ _ hn)
            rw [List.reverse_reverse, List.take_append_drop] at hr
            exact hr
          · cases hw
        · cases hw
      · have e1 := L1 (n := 3) hl
        subst e1
        split at hw
        · rename_i n mc ms th ck T hT
          split at hw
          · rename_i hc
            simp only [Bool.and_eq_true] at hc
            have q1 := Nat.le_of_ble_eq_true hc.1
            have hr := hcall pc _ _ n mc ms th ck T hd hT (st.take n).reverse (st.drop n) lv h cn sn _ (Or.inr (Or.inl ⟨rfl, hc.2.2.2.2⟩)) (by rw [List.length_reverse, List.length_take]; omega) (Nat.le_of_ble_eq_true hc.2.1) (Nat.le_of_ble_eq_true hc.2.2.1) (Nat.le_of_ble_eq_true hc.2.2.2.1) hw (fun r h' hn => hgo _ _ _ _ _ hn)
            rw [List.reverse_reverse, List.take_append_drop] at hr
            exact hr
          · cases hw
        · cases hw
      · -- invokespecial
        have e1 := L1 (n := 3) hl
        subst e1
        split at hw
        · rename_i hmem
          split at hw
          · rename_i _ a r _ _
            split at hw
            · rename_i hwd
              intro H locs ls hH hS hL hs
              have hm : ∀ (t : Nat) (L : List Nat), mm_mem t L = true → t ∈ L := by
                intro t L
                induction L with
                | nil => intro hq; cases hq
                | cons k L ih =>
                  intro hq
                  unfold mm_mem at hq
                  split at hq
                  · rename_i hk; rw [Nat.eq_of_beq_eq_true hk]; exact List.mem_cons_self
                  · exact List.mem_cons_of_mem _ (ih hq)
              have hin := hm _ _ hmem
              obtain ⟨w1, w2, w3⟩ := hoiw _ hin
              have hfr : 1 ≤ R.frames ∧ 20 ≤ R.locals := by
                rcases hoi with hq | hq
                · rw [hq] at hin; cases hin
                · exact hq
              have hsum := mm_wdle (g := g) r
              have hwd2 := Nat.le_of_ble_eq_true hwd
              have hroom := lv_room (m := m) (pc := pc) (ls := ls) (rest := (mR a :: r).map (mm_cv g)) (st := r.map (mm_cv g)) (by rw [hsum]; exact hwd2)
              exact W.objInit hx hb hown w1 w2 w3 rfl hL.1.1 rfl hd hfr.1 (Nat.le_trans (Nat.add_le_add_right hroom 12) hfr.2) (hgo _ _ _ _ _ hw H locs ls hH hS hL hs.2)
            · cases hw
          · cases hw
        · split at hw
          · rename_i n mc ms th ck T hT
            split at hw
            · rename_i hc
              simp only [Bool.and_eq_true] at hc
              have q1 := Nat.le_of_ble_eq_true hc.1
              have hr := hcall pc _ _ n mc ms th ck T hd hT (st.take n).reverse (st.drop n) lv h cn sn _ (Or.inr (Or.inr ⟨rfl, hc.2.2.2.2⟩)) (by rw [List.length_reverse, List.length_take]; omega) (Nat.le_of_ble_eq_true hc.2.1) (Nat.le_of_ble_eq_true hc.2.2.1) (Nat.le_of_ble_eq_true hc.2.2.2.1) hw (fun r h' hn => hgo _ _ _ _ _ hn)
              rw [List.reverse_reverse, List.take_append_drop] at hr
              exact hr
            · cases hw
          · cases hw
      · -- ireturn
        have e1 := L1 (n := 1) hl
        subst e1
        split at hw
        · rename_i z _ _
          split at hw
          · rename_i hc
            rw [Bool.and_eq_true] at hc
            split at hw
            · rename_i hk
              intro H locs ls hH hS hL hs
              exact hret pc _ (some (mI z)) h cn sn H locs ls hd (Or.inl hk) hw (Nat.le_of_ble_eq_true hc.1) (Nat.le_of_ble_eq_true hc.2) hH hS (fun v hv => by cases hv; exact hs.1)
            · rename_i hk
              intro H locs ls hH hS hL hs
              exact hret pc _ (some (mI z)) h cn sn H locs ls hd (Or.inr ⟨hk, hw.1⟩) hw.2 (Nat.le_of_ble_eq_true hc.1) (Nat.le_of_ble_eq_true hc.2) hH hS (fun v hv => by cases hv; exact hs.1)
            · cases hw
          · cases hw
        · cases hw
      · have e1 := L1 (n := 1) hl
        subst e1
        split at hw
        · rename_i z _ _
          split at hw
          · rename_i hc
            simp only [Bool.and_eq_true] at hc
            intro H locs ls hH hS hL hs
            exact hret pc _ (some (mL z)) h cn sn H locs ls hd (Nat.eq_of_beq_eq_true hc.2.2) hw (Nat.le_of_ble_eq_true hc.1) (Nat.le_of_ble_eq_true hc.2.1) hH hS (fun v hv => by cases hv; exact trivial)
          · cases hw
        · cases hw
      · have e1 := L1 (n := 1) hl
        subst e1
        split at hw
        · rename_i z _ _
          split at hw
          · rename_i hc
            simp only [Bool.and_eq_true] at hc
            intro H locs ls hH hS hL hs
            exact hret pc _ (some (mQ z)) h cn sn H locs ls hd (Nat.eq_of_beq_eq_true hc.2.2) hw (Nat.le_of_ble_eq_true hc.1) (Nat.le_of_ble_eq_true hc.2.1) hH hS (fun v hv => by cases hv; exact trivial)
          · cases hw
        · cases hw
      · have e1 := L1 (n := 1) hl
        subst e1
        split at hw
        · split at hw
          · rename_i hc
            simp only [Bool.and_eq_true] at hc
            intro H locs ls hH hS hL hs
            exact hret pc _ none h cn sn H locs ls hd ⟨Nat.eq_of_beq_eq_true hc.2.2, rfl⟩ hw (Nat.le_of_ble_eq_true hc.1) (Nat.le_of_ble_eq_true hc.2.1) hH hS (fun v hv => by cases hv)
          · cases hw
        · cases hw
      · -- what makes cells
        split at hw
        · rename_i st' h' a b ha
          split at hw
          · rename_i hc
            rw [Bool.and_eq_true] at hc
            exact hal lv st st' h h' cn sn a b ha (Nat.le_of_ble_eq_true hc.1) (Nat.le_of_ble_eq_true hc.2) (hgo _ _ _ _ _ hw)
          · cases hw
        · cases hw
end MS4
