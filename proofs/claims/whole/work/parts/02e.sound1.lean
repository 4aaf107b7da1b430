/-! the small machine's steps are the real one's: the stack alone -/
section MS1
variable {p : Program} {l : Launch} {e : Env} {R : Room} {s : State} {m : MethodId} {args : Array Value} {below : List Frame} {meth : Method} {c : Code} {Q : State → Prop}
variable {cc : ByteArray} {own : String} {g : SG} {H : Heap} {locs : List Loc} {cells slots : Nat} {ls : Array Slot} {pc : Nat} {rest : List Value}
theorem mm_top {z : Int} {x : Int32} (e1 : Int32.ofInt z = x) (k : W p l e R s m args below meth c H locs cells slots Q (F0 m pc ls (.int (Int32.ofInt z) :: rest))) : W p l e R s m args below meth c H locs cells slots Q (F0 m pc ls (.int x :: rest)) := by
  rw [← e1]
  exact k
theorem mm_topL {z x : Int64} (e1 : z = x) (k : W p l e R s m args below meth c H locs cells slots Q (F0 m pc ls (.long z :: rest))) : W p l e R s m args below meth c H locs cells slots Q (F0 m pc ls (.long x :: rest)) := by
  rw [← e1]
  exact k
theorem mm_rngB_t {lo hi z : Int} (h : mm_rngB lo hi z = true) : lo ≤ z ∧ z ≤ hi := by
  unfold mm_rngB at h
  simpa using h
theorem mm_b8 {z : Int} (h : -128 ≤ z ∧ z ≤ 127) : (Int8.ofInt z).toInt32 = Int32.ofInt z := by
  have h1 : (Int8.ofInt z).toInt = z := Int8.toInt_ofInt_of_le (by omega) (by omega)
  rw [← Int32.ofInt_int8ToInt, h1]
theorem mm_b16 {z : Int} (h : -32768 ≤ z ∧ z ≤ 32767) : (Int16.ofInt z).toInt32 = Int32.ofInt z := by
  have h1 : (Int16.ofInt z).toInt = z := Int16.toInt_ofInt_of_le (by omega) (by omega)
  rw [← Int32.ofInt_int16ToInt, h1]
def mm_Lok (own : String) (lt : List (Nat × MV)) (args : Array Value) (s : State) : Prop := ∀ (i : Nat) (v : MV), mm_look lt i = some v → (∀ z : Int, v = mI z → (Jvm.Cond.constant own i (Int32.ofInt z)).before args s = true) ∧ ∀ x : Int64, v = mL x → (Jvm.Cond.constantLong own i x).before args s = true
set_option maxHeartbeats 4000000 in
theorem mm_p0_sound (hx : p.tables.exec = Jvm.exec) (hb : c.code = cc) (hown : s.vm.findClass own = some m.cls) {lt : List (Nat × MV)} (hlt : mm_Lok own lt args s) {ins : Instr} {len : Nat} (hd : decode cc pc = .ok (ins, len)) (hl : mm_lenok ins len = true) {st st' : List MV} (hp : mm_p0 lt ins st = some st') (hs : mm_okS st)
    (k : mm_okS st' → W p l e R s m args below meth c H locs cells slots Q (F0 m (pc + len) ls (st'.map (mm_cv g)))) : W p l e R s m args below meth c H locs cells slots Q (F0 m pc ls (st.map (mm_cv g))) := by
  have L1 : ∀ {n : Nat}, Nat.beq len n = true → len = n := fun h => Nat.eq_of_beq_eq_true h
  unfold mm_p0 at hp
  split at hp
  · -- iconst
    have e1 := L1 (n := 1) hl
    subst e1
    split at hp
    · rename_i z hz
      cases hp
      exact lv_iconst hx hb hd rfl (k ⟨by have := mm_rngB_t hz; unfold mm_okV mm_rng; omega, hs⟩)
    · cases hp
  · have e1 := L1 (n := 2) hl
    subst e1
    split at hp
    · rename_i z hz
      cases hp
      exact lv_bipush hx hb hd (mm_b8 (mm_rngB_t hz)) (k ⟨by have := mm_rngB_t hz; unfold mm_okV mm_rng; omega, hs⟩)
    · cases hp
  · have e1 := L1 (n := 3) hl
    subst e1
    split at hp
    · rename_i z hz
      cases hp
      exact lv_sipush hx hb hd (mm_b16 (mm_rngB_t hz)) (k ⟨by have := mm_rngB_t hz; unfold mm_okV mm_rng; omega, hs⟩)
    · cases hp
  · have e1 := L1 (n := 1) hl
    subst e1
    cases hp
    exact lv_lconst hx hb hd rfl (k ⟨trivial, hs⟩)
  · have e1 := L1 (n := 1) hl
    subst e1
    cases hp
    exact lv_null hx hb hd (k ⟨trivial, hs⟩)
  · have e1 := L1 (n := 2) hl
    subst e1
    split at hp
    · rename_i z hz
      split at hp
      · rename_i hr
        cases hp
        exact lv_ldc hx hb hown ((hlt _ _ hz).1 _ rfl) hd (k ⟨by have := mm_rngB_t hr; unfold mm_okV mm_rng; omega, hs⟩)
      · cases hp
    · cases hp
  · have e1 := L1 (n := 3) hl
    subst e1
    split at hp
    · rename_i z hz
      split at hp
      · rename_i hr
        cases hp
        exact lv_ldcw hx hb hown ((hlt _ _ hz).1 _ rfl) hd (k ⟨by have := mm_rngB_t hr; unfold mm_okV mm_rng; omega, hs⟩)
      · cases hp
    · cases hp
  · have e1 := L1 (n := 3) hl
    subst e1
    split at hp
    · rename_i x hz
      cases hp
      exact lv_ldc2 hx hb hown ((hlt _ _ hz).2 _ rfl) hd (k ⟨trivial, hs⟩)
    · cases hp
  · -- dup
    have e1 := L1 (n := 1) hl
    subst e1
    split at hp
    · split at hp
      · rename_i hc
        cases hp
        exact lv_dup hx hb hd (mm_cat1 hc) (k ⟨hs.1, hs⟩)
      · cases hp
    · cases hp
  · -- pop
    have e1 := L1 (n := 1) hl
    subst e1
    split at hp
    · split at hp
      · rename_i hc
        cases hp
        exact lv_pop hx hb hd (mm_cat1 hc) (k hs.2)
      · cases hp
    · cases hp
  · -- dup2
    have e1 := L1 (n := 1) hl
    subst e1
    split at hp
    · split at hp
      · rename_i hc
        cases hp
        exact lv_dup2_2 hx hb hd (mm_cat2 hc) (k ⟨hs.1, hs⟩)
      · rename_i hc
        split at hp
        · split at hp
          · rename_i hc2
            cases hp
            exact lv_dup2_11 hx hb hd (mm_cat1 hc) (mm_cat1 hc2) (k ⟨hs.1, hs.2.1, hs⟩)
          · cases hp
        · cases hp
    · cases hp
  · -- i2l
    have e1 := L1 (n := 1) hl
    subst e1
    split at hp
    · cases hp
      have hr : mm_rng _ := hs.1
      exact lv_i2l hx hb hd (Int32.toInt64_ofInt (by unfold mm_rng at hr; exact hr.1) (by unfold mm_rng at hr; exact hr.2)) (k ⟨trivial, hs.2⟩)
    · cases hp
  · -- i2b
    have e1 := L1 (n := 1) hl
    subst e1
    split at hp
    · cases hp
      exact lv_i2b hx hb hd rfl (mm_top (Int32.ofInt_toInt _) (k ⟨mm_rng32 _, hs.2⟩))
    · cases hp
  · have e1 := L1 (n := 1) hl
    subst e1
    split at hp
    · cases hp
      exact lv_ladd hx hb hd (k ⟨trivial, hs.2.2⟩)
    · cases hp
  · have e1 := L1 (n := 1) hl
    subst e1
    split at hp
    · cases hp
      exact lv_lsub hx hb hd (k ⟨trivial, hs.2.2⟩)
    · cases hp
  · have e1 := L1 (n := 1) hl
    subst e1
    split at hp
    · cases hp
      exact lv_lmul hx hb hd (k ⟨trivial, hs.2.2⟩)
    · cases hp
  · have e1 := L1 (n := 1) hl
    subst e1
    split at hp
    · cases hp
      exact lv_lneg hx hb hd (k ⟨trivial, hs.2⟩)
    · cases hp
  · have e1 := L1 (n := 1) hl
    subst e1
    split at hp
    · cases hp
      exact W.lcmp hx hb hd (mm_top (Int32.ofInt_toInt _) (k ⟨mm_rng32 _, hs.2.2⟩))
    · cases hp
  · have e1 := L1 (n := 1) hl
    subst e1
    split at hp
    · cases hp
      exact lv_iand hx hb hd (mm_top (Int32.ofInt_toInt _) (k ⟨mm_rng32 _, hs.2.2⟩))
    · cases hp
  · have e1 := L1 (n := 1) hl
    subst e1
    split at hp
    · cases hp
      exact lv_ior hx hb hd (mm_top (Int32.ofInt_toInt _) (k ⟨mm_rng32 _, hs.2.2⟩))
    · cases hp
  · have e1 := L1 (n := 1) hl
    subst e1
    split at hp
    · cases hp
      exact lv_ishl hx hb hd (mm_top (Int32.ofInt_toInt _) (k ⟨mm_rng32 _, hs.2.2⟩))
    · cases hp
  · have e1 := L1 (n := 1) hl
    subst e1
    split at hp
    · cases hp
      exact lv_ishr hx hb hd (mm_top (Int32.ofInt_toInt _) (k ⟨mm_rng32 _, hs.2.2⟩))
    · cases hp
  · have e1 := L1 (n := 1) hl
    subst e1
    split at hp
    · cases hp
      exact lv_iushr hx hb hd rfl (mm_top (Int32.ofInt_toInt _) (k ⟨mm_rng32 _, hs.2.2⟩))
    · cases hp
  · cases hp
set_option maxHeartbeats 4000000 in
theorem mm_p1_sound (hx : p.tables.exec = Jvm.exec) (hb : c.code = cc) {ins : Instr} {len : Nat} (hd : decode cc pc = .ok (ins, len)) (hl : mm_lenok ins len = true) {st st' : List MV} {P : Prop} (hp : mm_p1 ins st = some (P, st')) (hP : P) (hs : mm_okS st)
    (k : mm_okS st' → W p l e R s m args below meth c H locs cells slots Q (F0 m (pc + len) ls (st'.map (mm_cv g)))) : W p l e R s m args below meth c H locs cells slots Q (F0 m pc ls (st.map (mm_cv g))) := by
  have L1 : ∀ {n : Nat}, Nat.beq len n = true → len = n := fun h => Nat.eq_of_beq_eq_true h
  have Z0 : ∀ {b : Int}, mm_rng b → b ≠ 0 → ¬ Int32.ofInt b = 0 := fun hr h0 h => h0 ((mm_eq32 hr mm_rng0).mp (h.trans mm_z32))
  unfold mm_p1 at hp
  split at hp
  · have e1 := L1 (n := 1) hl
    subst e1
    split at hp
    · cases hp
      exact lv_iadd hx hb hd (mm_top (Int32.ofInt_add _ _) (k ⟨hP, hs.2.2⟩))
    · cases hp
  · have e1 := L1 (n := 1) hl
    subst e1
    split at hp
    · cases hp
      exact lv_isub hx hb hd (mm_top (Int32.ofInt_sub _ _) (k ⟨hP, hs.2.2⟩))
    · cases hp
  · have e1 := L1 (n := 1) hl
    subst e1
    split at hp
    · cases hp
      exact lv_imul hx hb hd (mm_top (Int32.ofInt_mul _ _) (k ⟨hP, hs.2.2⟩))
    · cases hp
  · have e1 := L1 (n := 1) hl
    subst e1
    split at hp
    · cases hp
      exact lv_ineg hx hb hd (mm_top (Int32.ofInt_neg _) (k ⟨hP, hs.2⟩))
    · cases hp
  · have e1 := L1 (n := 1) hl
    subst e1
    split at hp
    · cases hp
      exact lv_idiv hx hb hd (Z0 hs.1 hP.1) (mm_top (mm_div32 hs.2.1 hs.1 hP.2).symm (k ⟨hP.2, hs.2.2⟩))
    · cases hp
  · have e1 := L1 (n := 1) hl
    subst e1
    split at hp
    · cases hp
      exact lv_irem hx hb hd (Z0 hs.1 hP.1) (mm_top (mm_rem32 hs.2.1 hs.1 hP.2).symm (k ⟨mm_tmod_rng hs.2.1 hs.1 hP.1, hs.2.2⟩))
    · cases hp
  · have e1 := L1 (n := 1) hl
    subst e1
    split at hp
    · cases hp
      exact lv_ldiv hx hb hd hP (k ⟨trivial, hs.2.2⟩)
    · cases hp
  · have e1 := L1 (n := 1) hl
    subst e1
    split at hp
    · cases hp
      exact lv_lrem hx hb hd hP (k ⟨trivial, hs.2.2⟩)
    · cases hp
  · have e1 := L1 (n := 1) hl
    subst e1
    split at hp
    · cases hp
      exact lv_l2i hx hb hd (Int32.ofInt_int64ToInt _).symm (k ⟨hP, hs.2⟩)
    · cases hp
  · cases hp
end MS1
