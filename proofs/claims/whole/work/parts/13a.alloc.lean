/-! what is made: objects, rows, rows of rows -/
theorem mm_wC_app (g : SG) : ∀ (L : List ME) (k : Nat) (e : ME), mm_wC g k (L ++ [e]) = mm_wC g k L ++ [(mm_ad g (k + L.length), mm_conc g e)]
  | [], k, e => rfl
  | x :: t, k, e => by
    have h := mm_wC_app g t (k + 1) e
    rw [show k + 1 + t.length = k + (x :: t).length by simp only [List.length_cons]; omega] at h
    show (mm_ad g k, mm_conc g x) :: mm_wC g (k + 1) (t ++ [e]) = _
    rw [h]
    rfl
theorem mm_okES_app : ∀ (L : List ME) (e : ME), mm_okES L → mm_okE e → mm_okES (L ++ [e])
  | [], _, _, h => ⟨h, trivial⟩
  | _ :: t, e, h1, h2 => ⟨h1.1, mm_okES_app t e h1.2 h2⟩
theorem mm_D_ins {A : Nat → Prop} {w1 w2 : va_W} {x : Nat × va_E} (hD : va_D A (w1 ++ w2)) (hne : ∀ (k : Nat) (q : Nat × va_E), (w1 ++ w2)[k]? = some q → q.1 ≠ x.1) (hA : A x.1) : va_D A (w1 ++ x :: w2) := by
  have key : ∀ (k : Nat) (q : Nat × va_E), (w1 ++ x :: w2)[k]? = some q → (k = w1.length ∧ q = x) ∨ (k < w1.length ∧ (w1 ++ w2)[k]? = some q) ∨ (w1.length < k ∧ (w1 ++ w2)[k - 1]? = some q) := by
    intro k q hk
    rcases Nat.lt_trichotomy k w1.length with h | h | h
    · rw [List.getElem?_append_left h] at hk
      exact Or.inr (Or.inl ⟨h, by rw [List.getElem?_append_left h]; exact hk⟩)
    · rw [List.getElem?_append_right (by omega), show k - w1.length = 0 by omega] at hk
      exact Or.inl ⟨h, (Option.some.inj hk).symm⟩
    · rw [List.getElem?_append_right (by omega), show k - w1.length = (k - 1 - w1.length) + 1 by omega, List.getElem?_cons_succ] at hk
      exact Or.inr (Or.inr ⟨h, by rw [List.getElem?_append_right (by omega)]; exact hk⟩)
  refine ⟨fun i j p q hi hj e => ?_, fun k q hk => ?_⟩
  · rcases key i p hi with ⟨a, rfl⟩ | ⟨a, b⟩ | ⟨a, b⟩ <;> rcases key j q hj with ⟨c, rfl⟩ | ⟨c, d⟩ | ⟨c, d⟩
    · omega
    · exact absurd e.symm (hne _ _ d)
    · exact absurd e.symm (hne _ _ d)
    · exact absurd e (hne _ _ b)
    · have := hD.1 _ _ _ _ b d e; omega
    · have := hD.1 _ _ _ _ b d e; omega
    · exact absurd e (hne _ _ b)
    · have := hD.1 _ _ _ _ b d e; omega
    · have := hD.1 _ _ _ _ b d e; omega
  · rcases key k q hk with ⟨-, rfl⟩ | ⟨-, b⟩ | ⟨-, b⟩
    · exact hA
    · exact hD.2 _ _ b
    · exact hD.2 _ _ b
theorem mm_P_ins {D : va_G} {cl : List vw_C} {w1 w2 : va_W} {x : Nat × va_E} {H : Heap} (hP : va_P D cl (w1 ++ w2) H) (hx : va_at D cl x H) : va_P D cl (w1 ++ x :: w2) H := by
  intro k q hk
  rcases List.mem_append.mp (List.mem_of_getElem? hk) with h | h
  · obtain ⟨i, hi⟩ := List.getElem?_of_mem (List.mem_append_left w2 h)
    exact hP i q hi
  · rcases List.mem_cons.mp h with rfl | h
    · exact hx
    · obtain ⟨i, hi⟩ := List.getElem?_of_mem (List.mem_append_right w1 h)
      exact hP i q hi
/-- a cell more -/
theorem mm_push_ok {g : SG} {b : Bool} {h h' : HP} {t k : Nat} {e : ME} {H H1 : Heap} (hH : mm_okH g h H) (ht : h.1 = some t) (hp : mm_push b h t e = some (k, h')) (he : mm_okE e) (hat : va_at g.1 vwCl (H.size, mm_conc g e) H1) (hz : H1.size = H.size + 1) (ho : ∀ q : Nat, q < H.size → H1[q]? = H[q]?) : mm_okH g h' H1 ∧ mm_ad g k = H.size ∧ h'.1 = some (t + 1) := by
  obtain ⟨hP, hD, k1, k2, k3, k4, k5⟩ := hH
  have hs := k5 t ht
  have hP1 : va_P g.1 vwCl (mm_wl g h) H1 := hP.kept (fun k q hq => ho q.1 (hP k q hq).lt)
  have hne : ∀ (k : Nat) (q : Nat × va_E), (mm_wl g h)[k]? = some q → q.1 ≠ H.size := fun k q hq => Nat.ne_of_lt (hP k q hq).lt
  unfold mm_push at hp
  split at hp
  · split at hp
    · rename_i hb
      rw [Bool.and_eq_true] at hb
      have o1 := Nat.eq_of_beq_eq_true hb.1
      have o2 := mm_blt_t hb.2
      cases hp
      have had : mm_ad g h.2.1.length = H.size := by
        unfold mm_ad
        rw [show Nat.blt h.2.1.length 2000 = true from Nat.ble_eq_true_of_le (by omega)]
        show g.2.2.1 + mm_off h.2.1.length = H.size
        omega
      have hw : mm_wl g (some (t + 1), h.2.1 ++ [e], h.2.2) = mm_wC g 0 h.2.1 ++ (H.size, mm_conc g e) :: (mm_wC g 1000 h.2.2.1 ++ mm_wR g h.2.2.2.1 h.2.2.2.2) := by
        show mm_wC g 0 (h.2.1 ++ [e]) ++ _ = _
        rw [mm_wC_app, Nat.zero_add, had, List.append_assoc]
        rfl
      refine ⟨⟨?_, ?_, mm_okES_app _ _ k1 he, k2, k3, by omega, fun t' ht' => by cases ht'; omega⟩, had, rfl⟩
      · rw [hw]; exact mm_P_ins hP1 hat
      · rw [hw]; exact mm_D_ins hD hne k4
    · cases hp
  · split at hp
    · rename_i hb
      rw [Bool.and_eq_true] at hb
      have o1 := Nat.eq_of_beq_eq_true hb.1
      have o2 := mm_blt_t hb.2
      cases hp
      have had : mm_ad g (1000 + h.2.2.1.length) = H.size := by
        unfold mm_ad
        rw [show Nat.blt (1000 + h.2.2.1.length) 2000 = true from Nat.ble_eq_true_of_le (by omega)]
        show g.2.2.1 + mm_off (1000 + h.2.2.1.length) = H.size
        omega
      have hw : mm_wl g (some (t + 1), h.2.1, h.2.2.1 ++ [e], h.2.2.2) = (mm_wC g 0 h.2.1 ++ mm_wC g 1000 h.2.2.1) ++ (H.size, mm_conc g e) :: mm_wR g h.2.2.2.1 h.2.2.2.2 := by
        show mm_wC g 0 h.2.1 ++ (mm_wC g 1000 (h.2.2.1 ++ [e]) ++ _) = _
        rw [mm_wC_app, had, List.append_assoc, List.append_assoc]
        rfl
      have hwl : mm_wl g h = (mm_wC g 0 h.2.1 ++ mm_wC g 1000 h.2.2.1) ++ mm_wR g h.2.2.2.1 h.2.2.2.2 := by
        unfold mm_wl
        rw [List.append_assoc]
      rw [hwl] at hP1 hD hne
      refine ⟨⟨?_, ?_, k1, mm_okES_app _ _ k2 he, k3, by omega, fun t' ht' => by cases ht'; omega⟩, had, rfl⟩
      · rw [hw]; exact mm_P_ins hP1 hat
      · rw [hw]; exact mm_D_ins hD hne k4
    · cases hp
/-- what a new object's fields are -/
def mm_d0 (ci : Nat) : List MV := ((mm_fks[ci]?).getD []).map (fun q => match q.1 with
  | 2 => mN
  | _ => mI 0)
theorem mm_d0_ok {ci : Nat} {q : vw_C} (hq : vwCl[ci]? = some q) {ty : Nat → FieldType} (hty : ∀ k, k < q.2.2 → parseFieldDescriptor (q.2.1 k).2.2.1 = some (ty k)) (g : SG) : (mm_d0 ci).length = q.2.2 ∧ (∀ j, j < q.2.2 → defaultValue (ty j) = vp_V ((mm_d0 ci).map (mm_cv g)) j) ∧ mm_okS (mm_d0 ci) := by
  have hci : ci < 11 := (List.getElem?_eq_some_iff.mp hq).1
  have h1 := List.all_eq_true.mp mm_fkc_t ci (List.mem_range.mpr hci)
  cases hl : mm_fks[ci]? with
  | none =>
    rw [hl] at h1
    cases h1
  | some l =>
    rw [hl, hq] at h1
    simp only [Bool.and_eq_true, decide_eq_true_eq] at h1
    have e0 : mm_d0 ci = l.map (fun q => match q.1 with | 2 => mN | _ => mI 0) := by
      unfold mm_d0
      rw [hl]
      rfl
    refine ⟨by rw [e0, List.length_map]; exact h1.1, fun j hj => ?_, ?_⟩
    · have h2 := List.all_eq_true.mp h1.2 j (List.mem_range.mpr (by omega))
      cases hk : l[j]? with
      | none => rw [hk] at h2; cases h2
      | some z =>
        rw [hk] at h2
        simp only [Bool.and_eq_true, decide_eq_true_eq] at h2
        rw [hty j hj] at h2
        have e1 : vp_V ((mm_d0 ci).map (mm_cv g)) j = mm_cv g (match z.1 with | 2 => mN | _ => mI 0) := by
          unfold vp_V
          rw [e0, List.getD_eq_getElem?_getD, List.getElem?_map, List.getElem?_map, hk]
          rfl
        rw [e1]
        have h3 := h2.2
        unfold mm_tyk at h3
        split at h3
        · rename_i e; rw [Option.some.inj e, ← Option.some.inj h3]; rfl
        · rename_i e; rw [Option.some.inj e, ← Option.some.inj h3]; rfl
        · rename_i e; rw [Option.some.inj e, ← Option.some.inj h3]; rfl
        · rename_i e; rw [Option.some.inj e, ← Option.some.inj h3]; rfl
        · cases h3
    · rw [e0]
      refine mm_okS_of _ (fun v hv => ?_)
      obtain ⟨z, -, rfl⟩ := List.mem_map.mp hv
      split
      · trivial
      · exact mm_rng0
def mm_Nok (own : String) (nt : List (Nat × Nat × List MV)) : Prop := ∀ (i ci : Nat) (fs : List MV), mm_look nt i = some (ci, fs) → fs = mm_d0 ci ∧ ∃ q : vw_C, vwCl[ci]? = some q ∧ Jvm.Cond.classLink own i q.1 ∈ mm_gt ∧ Jvm.Cond.instantiable q.1 q.2.2 ∈ mm_gt ∧ Jvm.Cond.initialized q.1 ∈ mm_gt
def mm_mix : MC → List Nat
  | [] => []
  | q :: t => match q.2.1 with
    | .multianewarray i 2 => i :: mm_mix t
    | _ => mm_mix t
theorem mm_mix_in {i : Nat} : ∀ {cd : MC} {pc len : Nat}, (pc, Instr.multianewarray i 2, len) ∈ cd → i ∈ mm_mix cd
  | q :: t, pc, len, h => by
    rcases List.mem_cons.mp h with rfl | h
    · exact List.mem_cons_self
    · have ih := mm_mix_in h
      unfold mm_mix
      split
      · exact List.mem_cons_of_mem _ ih
      · exact ih
theorem arrV_cg {cI : ClassId} {N : Nat} {f f' : Nat → Value} (h : ∀ j, j < N → f j = f' j) : arrV cI N f = arrV cI N f' := by
  unfold arrV
  congr 1
  congr 1
  funext j
  exact h j.val j.isLt
theorem mm_D_app {A : Nat → Prop} {S : Nat} {w : va_W} (hD : va_D A w) (hlt : ∀ (k : Nat) (q : Nat × va_E), w[k]? = some q → q.1 < S) (hA : ∀ q, S ≤ q → A q) (e : Nat → va_E) : ∀ n, va_D A (w ++ (List.range n).map (fun j => (S + j, e j)))
  | 0 => by simpa using hD
  | n + 1 => by
    have ih := mm_D_app hD hlt hA e n
    rw [List.range_succ, List.map_append, ← List.append_assoc]
    show va_D A ((w ++ (List.range n).map (fun j => (S + j, e j))) ++ (S + n, e n) :: [])
    refine mm_D_ins (by rw [List.append_nil]; exact ih) (fun k q hk => ?_) (hA _ (by omega))
    rw [List.append_nil] at hk
    rcases List.mem_append.mp (List.mem_of_getElem? hk) with h | h
    · obtain ⟨i, hi⟩ := List.getElem?_of_mem h
      have := hlt i q hi
      show q.1 ≠ S + n
      omega
    · obtain ⟨j, hj, rfl⟩ := List.mem_map.mp h
      have := List.mem_range.mp hj
      show S + j ≠ S + n
      omega
theorem mm_wR_app (g : SG) (n n' : Nat) (rows rows' : Nat → Int → Int) (h1 : ∀ r, r < n → rows' r = rows r) : mm_wR g (n + n') rows' = mm_wR g n rows ++ (List.range n').map (fun j => (mm_ar g (n + j), mm_row g (rows' (n + j)))) := by
  unfold mm_wR
  rw [List.range_add, List.map_append, List.map_map]
  congr 1
  exact List.map_congr_left (fun r hr => by rw [h1 r (List.mem_range.mp hr)])
theorem mm_ra {g : SG} {s : State} (hK : va_K g.1 vwCl (mm_tys g) s) : s.vm.findClass ("[" ++ FieldType.int.toString) = some (g.2.1 0) ∧ s.vm.findClass ("[" ++ FieldType.boolean.toString) = some (g.2.1 1) ∧ s.vm.findClass ("[" ++ FieldType.byte.toString) = some (g.2.1 2) ∧ s.vm.findClass ("[" ++ FieldType.long.toString) = some (g.2.1 3) ∧ s.vm.findClass ("[" ++ (FieldType.array .int).toString) = some (g.2.1 4) :=
  ⟨(hK.2 0 _ rfl).2, (hK.2 1 _ rfl).2, (hK.2 2 _ rfl).2, (hK.2 3 _ rfl).2, (hK.2 4 _ rfl).2⟩
section MA
variable {p : Program} {l : Launch} {e : Env} {R : Room} {s : State} {m : MethodId} {args : Array Value} {below : List Frame} {meth : Method} {c : Code} {Q : State → Prop}
variable {cc : ByteArray} {own : String} {g : SG} {E : NE}
theorem mm_new_sound (C : mm_Ctx p R s m args meth c cc own g E) (hN : mm_Nok own (ne_nt E)) (hRc : R.cells = ne_rc E) (hRs : R.slots = ne_rs E) {pc i ci t k : Nat} {fs : List MV} (hd : decode cc pc = .ok (.new i, 3)) {lv : LV} {st : List MV} {h h' : HP} {cn sn : Nat} {b : Bool} (hi : mm_look (ne_nt E) i = some (ci, fs)) (ht : h.1 = some t) (hp : mm_push b h t (eO ci fs) = some (k, h')) (hca : cn + 1 ≤ ne_rc E) (hsb : sn + fs.length ≤ ne_rs E)
    (hk : mm_K p l e R s m args below meth c Q g (pc + 3) lv (mR k :: st) h' (cn + 1) (sn + fs.length)) : mm_K p l e R s m args below meth c Q g pc lv st h cn sn := by
  obtain ⟨hx, hb, hown, hts, hK, hB, -⟩ := C
  obtain ⟨rfl, q, hq, w1, w2, w3⟩ := hN i ci fs hi
  obtain ⟨hin, ⟨ty, hty⟩, -⟩ := mm_cok ci q hq
  obtain ⟨d1, d2, d3⟩ := mm_d0_ok hq hty g
  intro H locs ls hH hS hL hs
  have hKn := hK.1 ci _ hq
  rw [d1] at hsb hk
  refine W.newcK hx hb hown (hts _ w1) (hts _ w2) (hts _ w3) rfl hd (by rw [hRc]; exact hca) (by rw [hRs]; exact hsb) hKn.2.1 rfl fun H1 kC hkC e1 z1 o1 => ?_
  have hat : va_at g.1 vwCl (H.size, mm_conc g (eO ci (mm_d0 ci))) H1 := ⟨_, hq, (u_born ty hts hin hKn hkC e1 hty).to d2⟩
  obtain ⟨g1, g2, g3⟩ := mm_push_ok (e := eO ci (mm_d0 ci)) hH ht hp d3 hat z1 o1
  have hS1 : va_S (mm_A g) s.heap H1 locs := ⟨Nat.le_trans hS.1 (by omega), fun x h1 h2 => (o1 x (Nat.lt_of_lt_of_le h1 hS.1)).trans (hS.2.1 x h1 h2), hS.2.2⟩
  have h3 := hk H1 locs ls g1 hS1 hL ⟨trivial, hs⟩
  have e3 : (mR k :: st).map (mm_cv g) = .ref H.size :: st.map (mm_cv g) := by
    show Value.ref (mm_ad g k) :: _ = _
    rw [g2]
  rw [e3] at h3
  exact h3
theorem mm_newa_sound (C : mm_Ctx p R s m args meth c cc own g E) (hRc : R.cells = ne_rc E) (hRs : R.slots = ne_rs E) (hrs : ne_rs E ≤ 60000000) {pc n t k : Nat} {aty : ArrayType} {a : ME} (hd : decode cc pc = .ok (.newarray aty, 2)) {lv : LV} {st : List MV} {h h' : HP} {cn sn : Nat} {b : Bool} (ha : (mm_akind aty = some 3 ∧ a = eL n (fun _ => 0)) ∨ ∃ kd, mm_akind aty = some kd ∧ kd ≠ 3 ∧ a = eI kd n (fun _ => 0)) (ht : h.1 = some t) (hp : mm_push b h t a = some (k, h')) (hca : cn + 1 ≤ ne_rc E) (hsb : sn + n ≤ ne_rs E)
    (hk : mm_K p l e R s m args below meth c Q g (pc + 2) lv (mR k :: st) h' (cn + 1) (sn + n)) : mm_K p l e R s m args below meth c Q g pc lv (mI (n : Int) :: st) h cn sn := by
  obtain ⟨hx, hb, hown, hts, hK, hB, -⟩ := C
  obtain ⟨r0, r1, r2, r3, r4⟩ := mm_ra hK
  intro H locs ls hH hS hL hs
  have hn32 : mm_rng (n : Int) := hs.1
  have cn32 : (Int32.ofInt (n : Int)).toNatClampNeg = n := by
    have := mm_cl hn32 (by omega)
    omega
  have nn : ¬ (Int32.ofInt (n : Int)) < 0 := by
    rw [mm_z32, mm_lt32 hn32 mm_rng0]
    omega
  have key : ∀ {cA : ClassId} {H1 : Heap}, H1[H.size]? = some (vp_cell cA (match mm_conc g a with | .inl x => x.2 | .inr _ => (0, .inl (fun _ => 0)))) → (∃ x, mm_conc g a = .inl (cA, x)) → mm_okE a → H1.size = H.size + 1 → (∀ q, q < H.size → H1[q]? = H[q]?) → W p l e R s m args below meth c H1 locs (cn + 1) (sn + n) Q (F0 m (pc + 2) ls (.ref H.size :: st.map (mm_cv g))) := by
    intro cA H1 e1 ⟨x, ex⟩ hok z1 o1
    have hat : va_at g.1 vwCl (H.size, mm_conc g a) H1 := by
      unfold va_at
      rw [ex] at e1 ⊢
      exact e1
    obtain ⟨g1, g2, g3⟩ := mm_push_ok hH ht hp hok hat z1 o1
    have hS1 : va_S (mm_A g) s.heap H1 locs := ⟨Nat.le_trans hS.1 (by omega), fun x h1 h2 => (o1 x (Nat.lt_of_lt_of_le h1 hS.1)).trans (hS.2.1 x h1 h2), hS.2.2⟩
    have h3 := hk H1 locs ls g1 hS1 hL ⟨trivial, hs.2⟩
    have e3 : (mR k :: st).map (mm_cv g) = .ref H.size :: st.map (mm_cv g) := by
      show Value.ref (mm_ad g k) :: _ = _
      rw [g2]
    rw [e3] at h3
    exact h3
  have hn31 : n < 2147483648 := by unfold mm_rng at hn32; omega
  have z0 : mm_rng 0 := mm_rng0
  rcases ha with ⟨hkd, rfl⟩ | ⟨kd, hkd, hne, rfl⟩
  · unfold mm_akind at hkd
    split at hkd <;> first | (cases hkd; done) | skip
    refine va_newaK (atype := .long) hx hb (hts _ (tb1 (i := 123) rfl rfl)) rfl hd rfl nn cn32 (by show n * 8 ≤ 536870912; omega) (by rw [hRc]; exact hca) (by rw [hRs]; exact hsb) rfl fun H1 cA e1 z1 o1 hAr hNm => ?_
    have : cA = g.2.1 3 := Option.some.inj (hNm.symm.trans r3)
    subst this
    exact key e1 ⟨_, rfl⟩ hn31 z1 o1
  · unfold mm_akind at hkd
    split at hkd <;> first | (cases hkd; done) | skip
    · cases hkd
      refine va_newaK (atype := .int) hx hb (hts _ (tb1 (i := 85) rfl rfl)) rfl hd rfl nn cn32 (by show n * 4 ≤ 536870912; omega) (by rw [hRc]; exact hca) (by rw [hRs]; exact hsb) rfl fun H1 cA e1 z1 o1 hAr hNm => ?_
      have : cA = g.2.1 0 := Option.some.inj (hNm.symm.trans r0)
      subst this
      exact key e1 ⟨_, rfl⟩ ⟨Or.inl rfl, fun _ _ => z0, fun z => absurd z (by decide), fun z => absurd z (by decide), hn31⟩ z1 o1
    · cases hkd
      refine va_newaK (atype := .boolean) hx hb (hts _ (tb1 (i := 122) rfl rfl)) rfl hd rfl nn cn32 (by show n * 1 ≤ 536870912; omega) (by rw [hRc]; exact hca) (by rw [hRs]; exact hsb) rfl fun H1 cA e1 z1 o1 hAr hNm => ?_
      have : cA = g.2.1 1 := Option.some.inj (hNm.symm.trans r1)
      subst this
      exact key e1 ⟨_, rfl⟩ ⟨Or.inr (Or.inl rfl), fun _ _ => z0, fun _ _ _ => Or.inl rfl, fun z => absurd z (by decide), hn31⟩ z1 o1
    · cases hkd
      refine va_newaK (atype := .byte) hx hb (hts _ (tb2 (i := 53) rfl rfl)) rfl hd rfl nn cn32 (by show n * 1 ≤ 536870912; omega) (by rw [hRc]; exact hca) (by rw [hRs]; exact hsb) rfl fun H1 cA e1 z1 o1 hAr hNm => ?_
      have : cA = g.2.1 2 := Option.some.inj (hNm.symm.trans r2)
      subst this
      exact key e1 ⟨_, rfl⟩ ⟨Or.inr (Or.inr rfl), fun _ _ => z0, fun z => absurd z (by decide), fun _ _ _ => ⟨by show (-128 : Int) ≤ 0; omega, by show (0 : Int) ≤ 127; omega⟩, hn31⟩ z1 o1
    · exact absurd (Option.some.inj hkd).symm hne
theorem mm_newm_sound (C : mm_Ctx p R s m args meth c cc own g E) (hRc : R.cells = ne_rc E) (hRs : R.slots = ne_rs E) {pc i n t k : Nat} (hd : decode cc pc = .ok (.multianewarray i 2, 4)) (hi : Jvm.Cond.classLink own i "[[I" ∈ mm_gt) {lv : LV} {st : List MV} {h h' : HP} {cn sn : Nat} (ht : h.1 = some t) (hrow : ∀ j, j < n → mm_offr (h.2.2.2.1 + j) = t + 1 + j) (hp : mm_push true h t (eG n h.2.2.2.1) = some (k, h')) (hca : cn + (1 + n) ≤ ne_rc E) (hsb : sn + (n + n * 220) ≤ ne_rs E) (hrs : ne_rs E ≤ 60000000) (hAO : (Jvm.Cond.arrayOver (.array .int)).before args s = true)
    (hk : mm_K p l e R s m args below meth c Q g (pc + 4) lv (mR k :: st) (some (t + 1 + n), h'.2.1, h'.2.2.1, h'.2.2.2.1 + n, fun q => match Nat.blt q h.2.2.2.1 with | true => h.2.2.2.2 q | false => fun _ => 0) (cn + (1 + n)) (sn + (n + n * 220))) : mm_K p l e R s m args below meth c Q g pc lv (mI 220 :: mI (n : Int) :: st) h cn sn := by
  obtain ⟨hx, hb, hown, hts, hK, hB, -⟩ := C
  obtain ⟨r0, r1, r2, r3, r4⟩ := mm_ra hK
  intro H locs ls hH hS hL hs
  have hn32 : mm_rng (n : Int) := hs.2.1
  have cn32 : (Int32.ofInt (n : Int)).toNatClampNeg = n := by
    have := mm_cl hn32 (by omega)
    omega
  have nn : ¬ (Int32.ofInt (n : Int)) < 0 := by
    rw [mm_z32, mm_lt32 hn32 mm_rng0]
    omega
  have c220 : (Int32.ofInt 220).toNatClampNeg = 220 := by decide
  have n220 : ¬ (Int32.ofInt 220) < 0 := by decide
  intro T hT X
  obtain ⟨F, vm1, cA, cy, hfA, hfC, ⟨⟨Lz, hLz, X1⟩, -, f1, f2, f3, f4⟩, stp⟩ := ow_rows X (g := F0 m pc ls (.int (Int32.ofInt 220) :: .int (Int32.ofInt (n : Int)) :: st.map (mm_cv g))) (n := Int32.ofInt (n : Int)) (k := Int32.ofInt 220) (rest := st.map (mm_cv g)) hx hown (hts _ hi) hAO (hts _ (tb1 (i := 85) rfl rfl)) rfl (by rw [hb]; exact hd) rfl nn n220 (by rw [cn32]; omega) (by rw [c220]; decide) (by rw [cn32, hRc]; omega) (by rw [cn32, c220, hRs]; omega)
  have eA : cA = g.2.1 4 := Option.some.inj (hfA.symm.trans r4)
  have eC : cy = g.2.1 0 := Option.some.inj (hfC.symm.trans r0)
  subst eA eC
  rw [cn32, c220] at X1
  rw [cn32] at f1 f2 f4
  rw [c220] at f4
  rw [hT] at f1 f2 f3 f4
  have f2 : F.heap[H.size]? = some (arrV (g.2.1 4) n (fun j => .ref (H.size + 1 + j))) := f2.trans (congrArg some (arrV_cg (fun j hj => by rw [if_pos hj])))
  have f4 : ∀ j, j < n → F.heap[H.size + 1 + j]? = some (arrV (g.2.1 0) 220 (fun _ => .int (Int32.ofInt 0))) := f4
  obtain ⟨hP, hD, k1, k2, k3, k4, k5⟩ := hH
  have hs5 := k5 t ht
  have har : ∀ j, j < n → mm_ar g (h.2.2.2.1 + j) = H.size + 1 + j := fun j hj => by
    unfold mm_ar
    rw [hrow j hj]
    omega
  unfold mm_push at hp
  split at hp
  · rename_i hbb
    split at hp
    · rename_i hb2
      rw [Bool.and_eq_true] at hb2
      have o1 := Nat.eq_of_beq_eq_true hb2.1
      have o2 := mm_blt_t hb2.2
      cases hp
      have had : mm_ad g h.2.1.length = H.size := by
        unfold mm_ad
        rw [show Nat.blt h.2.1.length 2000 = true from Nat.ble_eq_true_of_le (by omega)]
        show g.2.2.1 + mm_off h.2.1.length = H.size
        omega
      obtain ⟨rows', hrw⟩ : ∃ r : Nat → Int → Int, r = fun q => match Nat.blt q h.2.2.2.1 with | true => h.2.2.2.2 q | false => fun _ => 0 := ⟨_, rfl⟩
      have ra1 : ∀ r, r < h.2.2.2.1 → rows' r = h.2.2.2.2 r := fun r hr => by
        rw [hrw]
        show (match Nat.blt r h.2.2.2.1 with | true => h.2.2.2.2 r | false => fun _ => 0) = _
        rw [show Nat.blt r h.2.2.2.1 = true from Nat.ble_eq_true_of_le hr]
      have ra2 : ∀ j, rows' (h.2.2.2.1 + j) = fun _ => 0 := fun j => by
        rw [hrw]
        show (match Nat.blt (h.2.2.2.1 + j) h.2.2.2.1 with | true => h.2.2.2.2 (h.2.2.2.1 + j) | false => fun _ => 0) = _
        cases hz : Nat.blt (h.2.2.2.1 + j) h.2.2.2.1 with
        | true => exact absurd (mm_blt_t hz) (by omega)
        | false => rfl
      rw [← hrw] at hk
      have hw : mm_wl g (some (t + 1 + n), h.2.1 ++ [eG n h.2.2.2.1], h.2.2.1, h.2.2.2.1 + n, rows') = (mm_wC g 0 h.2.1 ++ (H.size, mm_conc g (eG n h.2.2.2.1)) :: (mm_wC g 1000 h.2.2.1 ++ mm_wR g h.2.2.2.1 h.2.2.2.2)) ++ (List.range n).map (fun j => (H.size + 1 + j, mm_row g (fun _ => 0))) := by
        show mm_wC g 0 (h.2.1 ++ [eG n h.2.2.2.1]) ++ (mm_wC g 1000 h.2.2.1 ++ mm_wR g (h.2.2.2.1 + n) rows') = _
        rw [mm_wC_app, Nat.zero_add, had, mm_wR_app g _ _ _ _ ra1, List.map_congr_left (g := fun j => (H.size + 1 + j, mm_row g (fun _ => 0))) (fun j hj => by rw [har j (List.mem_range.mp hj), ra2 j])]
        simp only [List.append_assoc, List.cons_append, List.nil_append]
      have hP1 : va_P g.1 vwCl (mm_wl g h) F.heap := hP.kept (fun k q hq => f3 q.1 (hP k q hq).lt)
      have hne : ∀ (k : Nat) (q : Nat × va_E), (mm_wl g h)[k]? = some q → q.1 ≠ H.size := fun k q hq => Nat.ne_of_lt (hP k q hq).lt
      have hat : va_at g.1 vwCl (H.size, mm_conc g (eG n h.2.2.2.1)) F.heap := by
        show F.heap[H.size]? = some (arrV (g.2.1 4) n (fun j => va_rf (some (mm_ar g (h.2.2.2.1 + j)))))
        rw [f2]
        exact congrArg some (arrV_cg (fun j hj => by rw [har j hj]; rfl))
      have hP2 := mm_P_ins (w1 := mm_wC g 0 h.2.1) hP1 hat
      have hD2 := mm_D_ins (x := (H.size, mm_conc g (eG n h.2.2.2.1))) (w1 := mm_wC g 0 h.2.1) hD hne k4
      have hlt2 : ∀ (k : Nat) (q : Nat × va_E), (mm_wC g 0 h.2.1 ++ (H.size, mm_conc g (eG n h.2.2.2.1)) :: (mm_wC g 1000 h.2.2.1 ++ mm_wR g h.2.2.2.1 h.2.2.2.2))[k]? = some q → q.1 < H.size + 1 := by
        intro k q hq
        rcases List.mem_append.mp (List.mem_of_getElem? hq) with z | z
        · obtain ⟨i2, hi2⟩ := List.getElem?_of_mem (List.mem_append_left (mm_wC g 1000 h.2.2.1 ++ mm_wR g h.2.2.2.1 h.2.2.2.2) z)
          have := (hP i2 q hi2).lt
          omega
        · rcases List.mem_cons.mp z with rfl | z
          · exact Nat.lt_succ_self _
          · obtain ⟨i2, hi2⟩ := List.getElem?_of_mem (List.mem_append_right (mm_wC g 0 h.2.1) z)
            have := (hP i2 q hi2).lt
            omega
      have hD3 := mm_D_app hD2 hlt2 (fun q hq => (show g.2.2.1 ≤ q by omega)) (fun _ => mm_row g (fun _ => 0)) n
      have hP3 : va_P g.1 vwCl ((List.range n).map (fun j => (H.size + 1 + j, mm_row g (fun _ => 0)))) F.heap := by
        intro k q hq
        obtain ⟨j, hj, rfl⟩ := List.mem_map.mp (List.mem_of_getElem? hq)
        exact f4 j (List.mem_range.mp hj)
      have hOK : mm_okH g (some (t + 1 + n), h.2.1 ++ [eG n h.2.2.2.1], h.2.2.1, h.2.2.2.1 + n, rows') F.heap := by
        refine ⟨?_, ?_, mm_okES_app _ _ k1 (show n < 2147483648 by omega), k2, fun r hr j hj => ?_, by omega, fun t' ht' => by cases ht'; omega⟩
        · rw [hw]; exact hP2.app hP3
        · rw [hw]; exact hD3
        · show mm_rng (rows' r j)
          by_cases q : r < h.2.2.2.1
          · rw [ra1 r q]; exact k3 r q j hj
          · rw [show r = h.2.2.2.1 + (r - h.2.2.2.1) by omega, ra2]
            exact mm_rng0
      have hS1 : va_S (mm_A g) s.heap F.heap (locs ++ Lz) := by
        refine ⟨Nat.le_trans hS.1 (by omega), fun x h1 h2 => (f3 x (Nat.lt_of_lt_of_le h1 hS.1)).trans (hS.2.1 x h1 h2), fun z hz => ?_⟩
        rcases List.mem_append.mp hz with z1 | z1
        · exact hS.2.2 z z1
        · show g.2.2.1 ≤ z.base
          rw [hLz z z1, hT]; exact k4
      have h3 := hk F.heap _ ls hOK hS1 hL ⟨trivial, hs.2.2⟩ F rfl (by rw [show cn + (1 + n) = cn + 1 + n by omega, show sn + (n + n * 220) = sn + n + n * 220 by omega]; exact X1)
      obtain ⟨t2, a1, b1⟩ := h3
      refine ⟨t2, stp t2 ?_, b1⟩
      have e3 : (mR h.2.1.length :: st).map (mm_cv g) = .ref T.heap.size :: st.map (mm_cv g) := by
        show Value.ref (mm_ad g h.2.1.length) :: _ = _
        rw [had, hT]
      rw [e3] at a1
      exact a1
    · cases hp
  · rename_i hbb; cases hbb
theorem mm_alloc_sound (C : mm_Ctx p R s m args meth c cc own g E) (hN : mm_Nok own (ne_nt E)) (hRc : R.cells = ne_rc E) (hRs : R.slots = ne_rs E) (hrs : ne_rs E ≤ 60000000) {pc len : Nat} {ins : Instr} (hd : decode cc pc = .ok (ins, len)) (hl : mm_lenok ins len = true) (hM : ∀ i, ins = .multianewarray i 2 → Jvm.Cond.classLink own i "[[I" ∈ mm_gt) (hAO : ∀ i, ins = .multianewarray i 2 → (Jvm.Cond.arrayOver (.array .int)).before args s = true) {lv : LV} {st st' : List MV} {h h' : HP} {cn sn a b : Nat} (ha : mm_alloc E ins st h = some (st', h', a, b)) (hca : cn + a ≤ ne_rc E) (hsb : sn + b ≤ ne_rs E)
    (hk : mm_K p l e R s m args below meth c Q g (pc + len) lv st' h' (cn + a) (sn + b)) : mm_K p l e R s m args below meth c Q g pc lv st h cn sn := by
  unfold mm_alloc at ha
  split at ha
  · have := Nat.eq_of_beq_eq_true hl
    subst this
    split at ha
    · rename_i ci fs hi
      split at ha
      · rename_i t ht
        split at ha
        · rename_i k h2 hp
          cases ha
          exact mm_new_sound C hN hRc hRs hd hi ht hp hca hsb hk
        · cases ha
      · cases ha
    · cases ha
  · have := Nat.eq_of_beq_eq_true hl
    subst this
    split at ha
    · rename_i n r
      split at ha
      · rename_i t ht
        split at ha
        · rename_i n' 
          split at ha
          · rename_i hkd
            split at ha
            · rename_i k h2 hp
              cases ha
              exact mm_newa_sound C hRc hRs hrs hd (Or.inl ⟨hkd, rfl⟩) ht hp hca hsb hk
            · cases ha
          · rename_i kd hne hkd
            split at ha
            · rename_i k h2 hp
              cases ha
              exact mm_newa_sound C hRc hRs hrs hd (Or.inr ⟨kd, hkd, fun z => hne z, rfl⟩) ht hp hca hsb hk
            · cases ha
          · cases ha
        · cases ha
      · cases ha
    · cases ha
  · have := Nat.eq_of_beq_eq_true hl
    subst this
    split at ha
    · rename_i m' n r
      split at ha
      · rename_i t ht
        split at ha
        · rename_i n'
          split at ha
          · rename_i hbb
            rw [Bool.and_eq_true, decide_eq_true_eq] at hbb
            obtain ⟨rfl, hall⟩ := hbb
            split at ha
            · rename_i k h2 hp
              cases ha
              refine mm_newm_sound C hRc hRs hd (hM _ rfl) ht (fun j hj => Nat.eq_of_beq_eq_true (List.all_eq_true.mp hall j (List.mem_range.mpr hj))) hp hca hsb hrs (hAO _ rfl) hk
            · cases ha
          · cases ha
        · cases ha
      · cases ha
    · cases ha
  · cases ha
end MA
