/-! a stretch at any count of what was made before it -/
def mm_big (E : NE) (c0 s0 : Nat) : NE := (E.1, E.2.1, E.2.2.1, E.2.2.2.1, E.2.2.2.2.1, E.2.2.2.2.2.1, E.2.2.2.2.2.2.1, (c0 + ne_rc E, s0 + ne_rs E), E.2.2.2.2.2.2.2.2)
theorem ble_add (c x y : Nat) : Nat.ble (c + x) (c + y) = Nat.ble x y := by
  cases h : Nat.ble x y with
  | true => exact Nat.ble_eq_true_of_le (by have := Nat.le_of_ble_eq_true h; omega)
  | false =>
    cases h2 : Nat.ble (c + x) (c + y) with
    | false => rfl
    | true =>
      have := Nat.le_of_ble_eq_true h2
      rw [Nat.ble_eq_true_of_le (show x ≤ y by omega)] at h
      cases h
set_option maxHeartbeats 8000000 in
theorem mm_w1_sh {E : NE} {c0 s0 : Nat} {ins : Instr} {l : LV} {st : List MV} {h : HP} {cn sn : Nat} {go : LV → List MV → HP → Nat → Nat → Prop} {jm : Int → LV → List MV → HP → Nat → Nat → Prop} {N : Option MV → HP → Prop} {X : String → HP → Prop} : mm_w1 (mm_big E c0 s0) ins l st h (c0 + cn) (s0 + sn) go jm N X = mm_w1 E ins l st h cn sn (fun l st h c s => go l st h (c0 + c) (s0 + s)) (fun o l st h c s => jm o l st h (c0 + c) (s0 + s)) N X := by
  have e1 : ne_lt (mm_big E c0 s0) = ne_lt E := rfl
  have e2 : ne_ft (mm_big E c0 s0) = ne_ft E := rfl
  have e3 : ne_ct (mm_big E c0 s0) = ne_ct E := rfl
  have e4 : ne_gs (mm_big E c0 s0) = ne_gs E := rfl
  have e5 : ne_ro (mm_big E c0 s0) = ne_ro E := rfl
  have e6 : ne_oi (mm_big E c0 s0) = ne_oi E := rfl
  have e7 : ne_ini (mm_big E c0 s0) = ne_ini E := rfl
  have e8 : ne_rk (mm_big E c0 s0) = ne_rk E := rfl
  have e9 : ne_rc (mm_big E c0 s0) = c0 + ne_rc E := rfl
  have e10 : ne_rs (mm_big E c0 s0) = s0 + ne_rs E := rfl
  have e11 : mm_alloc (mm_big E c0 s0) ins st h = mm_alloc E ins st h := rfl
  unfold mm_w1
  simp only [e1, e2, e3, e4, e5, e6, e7, e8, e9, e10, e11, Nat.add_assoc, ble_add]
theorem mm_nx_sh {cuts : List Nat} {K : Nat → LV → List MV → HP → Nat → Nat → Prop} {go go0 : MC → LV → List MV → HP → Nat → Nat → Prop} {c0 s0 t : Nat} {sfx : MC} {l : LV} {st : List MV} {h : HP} {a b : Nat} (hg : ∀ (m : MC) (l : LV) (st : List MV) (h : HP) (a b : Nat), go m l st h (c0 + a) (s0 + b) = go0 m l st h a b) : mm_nx cuts K go t sfx l st h (c0 + a) (s0 + b) = mm_nx cuts (fun pc l st h c s => K pc l st h (c0 + c) (s0 + s)) go0 t sfx l st h a b := by
  unfold mm_nx
  simp only [hg]
set_option maxHeartbeats 8000000 in
theorem mm_wp_sh {E : NE} {c0 s0 : Nat} (htt : ne_tt E = []) {cd : MC} {cuts : List Nat} {K : Nat → LV → List MV → HP → Nat → Nat → Prop} {N : Option MV → HP → Prop} {X : String → HP → Prop} : ∀ (f : Nat) (tl : MC) (l : LV) (st : List MV) (h : HP) (cn sn : Nat), mm_wp (mm_big E c0 s0) cd cuts K N X f tl l st h (c0 + cn) (s0 + sn) = mm_wp E cd cuts (fun pc l st h c s => K pc l st h (c0 + c) (s0 + s)) N X f tl l st h cn sn
  | 0, _, _, _, _, _, _ => rfl
  | _ + 1, [], _, _, _, _, _ => rfl
  | f + 1, q :: tl, l, st, h, cn, sn => by
    have ih := mm_wp_sh (E := E) (c0 := c0) (s0 := s0) htt (cd := cd) (cuts := cuts) (K := K) (N := N) (X := X) f
    have e1 : ne_tt (mm_big E c0 s0) = [] := htt
    unfold mm_wp
    rw [e1, htt]
    simp only [mm_look, mm_w1_sh, mm_nx_sh ih]
theorem mm_Cl_sh {E : NE} {c0 s0 : Nat} (htt : ne_tt E = []) {cd : MC} {K : Nat → LV → List MV → HP → Nat → Nat → Prop} {N : Option MV → HP → Prop} {X : String → HP → Prop} (hK : mm_Cl (mm_big E c0 s0) cd N X K) : mm_Cl E cd N X (fun pc l st h c s => K pc l st h (c0 + c) (s0 + s)) := by
  intro cuts pc l st h cn sn hr
  refine hK cuts pc l st h (c0 + cn) (s0 + sn) ?_
  unfold mm_run at hr ⊢
  split at hr
  · exact hr
  · split at hr
    · rename_i e
      rw [mm_wp_sh htt]
      exact hr
    · exact hr
