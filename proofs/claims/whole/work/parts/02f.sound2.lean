/-! the small machine's steps are the real one's: locals, branches, the heap -/
theorem mm_cok : ∀ (ci : Nat) (q : vw_C), vwCl[ci]? = some q → (∀ w ∈ u_ws q.1 q.2.1 q.2.2, w ∈ mm_gt) ∧ (∃ ty0 : Nat → FieldType, ∀ k, k < q.2.2 → parseFieldDescriptor (q.2.1 k).2.2.1 = some (ty0 k)) ∧ (∀ a, a < q.2.2 → ∀ b, b < q.2.2 → a ≠ b → (q.2.1 a).2.1 ≠ (q.2.1 b).2.1) := by
  intro ci q h
  match ci, h with
  | 0, h => cases h; exact ⟨clX0, ⟨tyX0, tyX0_ok⟩, nmX0⟩
  | 1, h => cases h; exact ⟨clX1, ⟨tyX1, tyX1_ok⟩, nmX1⟩
  | 2, h => cases h; exact ⟨clX2, ⟨tyX2, tyX2_ok⟩, nmX2⟩
  | 3, h => cases h; exact ⟨clX3, ⟨tyX3, tyX3_ok⟩, nmX3⟩
  | 4, h => cases h; exact ⟨clX4, ⟨tyX4, tyX4_ok⟩, nmX4⟩
  | 5, h => cases h; exact ⟨clX5, ⟨tyX5, tyX5_ok⟩, nmX5⟩
  | 6, h => cases h; exact ⟨clX6, ⟨tyX6, tyX6_ok⟩, nmX6⟩
  | 7, h => cases h; exact ⟨clX7, ⟨tyX7, tyX7_ok⟩, nmX7⟩
  | 8, h => cases h; exact ⟨clX8, ⟨tyX8, tyX8_ok⟩, nmX8⟩
  | 9, h => cases h; exact ⟨clX9, ⟨tyX9, tyX9_ok⟩, nmX9⟩
  | 10, h => cases h; exact ⟨clX10, ⟨tyX10, tyX10_ok⟩, nmX10⟩
  | k + 11, h => simp at h
def mm_tyk (t : Option FieldType) : Option Nat := match t with
  | some .int => some 0
  | some .boolean => some 1
  | some (.object _) => some 2
  | some (.array _) => some 2
  | _ => none
def mm_fkc : Bool := (List.range 11).all (fun ci => match mm_fks[ci]?, vwCl[ci]? with
  | some l, some q => decide (l.length = q.2.2) && (List.range l.length).all (fun k => match l[k]? with
    | some (kd, fin) => decide ((q.2.1 k).2.2.2 = fin) && decide (mm_tyk (parseFieldDescriptor (q.2.1 k).2.2.1) = some kd)
    | none => false)
  | _, _ => false)
theorem mm_fkc_t : mm_fkc = true := by decide +kernel
theorem mm_fkok {ci k kd : Nat} {fin : Bool} (h : mm_fk ci k = some (kd, fin)) : ∃ q : vw_C, vwCl[ci]? = some q ∧ k < q.2.2 ∧ (q.2.1 k).2.2.2 = fin ∧ mm_tyk (parseFieldDescriptor (q.2.1 k).2.2.1) = some kd := by
  unfold mm_fk at h
  split at h
  · rename_i l hl
    have hci : ci < 11 := (List.getElem?_eq_some_iff.mp hl).1
    have h1 := List.all_eq_true.mp mm_fkc_t ci (List.mem_range.mpr hci)
    rw [hl] at h1
    obtain ⟨q, hq⟩ : ∃ q, vwCl[ci]? = some q := ⟨vwCl[ci]'hci, List.getElem?_eq_getElem hci⟩
    rw [hq] at h1
    simp only [Bool.and_eq_true, decide_eq_true_eq] at h1
    have hk : k < l.length := (List.getElem?_eq_some_iff.mp h).1
    have h2 := List.all_eq_true.mp h1.2 k (List.mem_range.mpr hk)
    rw [h] at h2
    simp only [Bool.and_eq_true, decide_eq_true_eq] at h2
    exact ⟨q, hq, by omega, h2.1, h2.2⟩
  · cases h
theorem mm_tyk0 {t : Option FieldType} (h : mm_tyk t = some 0) : t = some .int := by
  unfold mm_tyk at h
  split at h <;> first | rfl | cases h
theorem mm_tyk1 {t : Option FieldType} (h : mm_tyk t = some 1) : t = some .boolean := by
  unfold mm_tyk at h
  split at h <;> first | rfl | cases h
theorem mm_tyk2 {t : Option FieldType} (h : mm_tyk t = some 2) : ∃ ty, t = some ty ∧ ∀ v : Value, (v = .null ∨ ∃ a, v = .ref a) → narrow ty v = v ∧ fits ty v = true := by
  unfold mm_tyk at h
  split at h
  · cases h
  · cases h
  · rename_i C
    refine ⟨_, rfl, ?_⟩
    rintro v (rfl | ⟨a, rfl⟩) <;> exact ⟨rfl, rfl⟩
  · rename_i C
    refine ⟨_, rfl, ?_⟩
    rintro v (rfl | ⟨a, rfl⟩) <;> exact ⟨rfl, rfl⟩
  · cases h
def mm_Fok (own : String) (ft : List (Nat × Nat × Nat)) : Prop := ∀ (i ci k : Nat), mm_look ft i = some (ci, k) → ∃ q : vw_C, vwCl[ci]? = some q ∧ k < q.2.2 ∧ Jvm.Cond.fieldLink own i (q.2.1 k).1 (q.2.1 k).2.1 (q.2.1 k).2.2.1 ∈ mm_gt
theorem mm_look_mem {α : Type} : ∀ (l : List (Nat × α)) (i : Nat) (v : α), mm_look l i = some v → (i, v) ∈ l
  | [], _, _, h => by cases h
  | (k, w) :: t, i, v, h => by
    unfold mm_look at h
    split at h
    · rename_i hk
      cases h
      rw [Nat.eq_of_beq_eq_true hk]
      exact List.mem_cons_self
    · exact List.mem_cons_of_mem _ (mm_look_mem t i v h)
theorem mm_Fok_of {own : String} {ft : List (Nat × Nat × Nat)} (h : ∀ q ∈ ft, ∃ r : vw_C, vwCl[q.2.1]? = some r ∧ q.2.2 < r.2.2 ∧ Jvm.Cond.fieldLink own q.1 (r.2.1 q.2.2).1 (r.2.1 q.2.2).2.1 (r.2.1 q.2.2).2.2.1 ∈ mm_gt) : mm_Fok own ft :=
  fun i ci k hk => h (i, ci, k) (mm_look_mem ft i (ci, k) hk)
section MS2
variable {p : Program} {l : Launch} {e : Env} {R : Room} {s : State} {m : MethodId} {args : Array Value} {below : List Frame} {meth : Method} {c : Code} {Q : State → Prop}
variable {cc : ByteArray} {own : String} {g : SG} {E : NE}
/-- from here the machine comes to Q, whatever the addresses are -/
def mm_K (p : Program) (l : Launch) (e : Env) (R : Room) (s : State) (m : MethodId) (args : Array Value) (below : List Frame) (meth : Method) (c : Code) (Q : State → Prop) (g : SG) (pc : Nat) (lv : LV) (st : List MV) (h : HP) (cn sn : Nat) : Prop :=
  ∀ (H : Heap) (locs : List Loc) (ls : Array Slot), mm_okH g h H → va_S (mm_A g) s.heap H locs → mm_okL g lv ls c.maxLocals → mm_okS st → W p l e R s m args below meth c H locs cn sn Q (F0 m pc ls (st.map (mm_cv g)))
/-- what stands fast in a method's run -/
def mm_Ctx (p : Program) (R : Room) (s : State) (m : MethodId) (args : Array Value) (meth : Method) (c : Code) (cc : ByteArray) (own : String) (g : SG) (E : NE) : Prop :=
  p.tables.exec = Jvm.exec ∧ c.code = cc ∧ s.vm.findClass own = some m.cls ∧ (∀ w ∈ mm_gt, w.before args s = true) ∧ va_K g.1 vwCl (mm_tys g) s ∧ g.2.2.1 ≤ s.heap.size ∧
  (ne_ini E = true → meth.name = "<init>" ∧ ∀ (i ci k : Nat) (q : vw_C), mm_look (ne_ft E) i = some (ci, k) → vwCl[ci]? = some q → (q.2.1 k).1 = own) ∧
  mm_Lok own (ne_lt E) args s ∧ mm_Fok own (ne_ft E) ∧
  (∀ (i n : Nat) (f : Int → Int), mm_look (ne_ro E) i = some (n, f) → 2000 ≤ i ∧ va_X (g.2.2.2 i) n (fun j => Int32.ofInt (f (j : Int))) s s.heap ∧ g.2.2.2 i < s.heap.size ∧ ¬ mm_A g (g.2.2.2 i) ∧ n < 2147483648 ∧ ∀ j : Nat, j < n → mm_rng (f j)) ∧
  (∀ i a : Nat, mm_look (ne_gs E) i = some a → 2000 ≤ a ∧ ∃ (C n d : String), va_Z C n d (.ref (g.2.2.2 a)) (mm_A g) s s.heap ∧ (Jvm.Cond.fieldLink own i C n d).before args s = true) ∧
  (ne_oi E = [] ∨ (1 ≤ R.frames ∧ 20 ≤ R.locals)) ∧ (∀ i ∈ ne_oi E, (Jvm.Cond.methodLink own i objectInit).before args s = true ∧ (Jvm.Cond.instanceMethod objectInit).before args s = true ∧ (Jvm.Cond.code objectInit ⟨#[0xb1]⟩ 1 none).before args s = true)
theorem mm_okH_put {h : HP} {H1 : Heap} {i : Nat} {e0 e1 : ME} {H : Heap} (hH : mm_okH g h H) (hg : mm_get h i = some e0) (he : mm_okE e1) (hP : va_P g.1 vwCl ((mm_wl g h).set (mm_pos h i) (mm_ad g i, mm_conc g e1)) H1) (hD : va_D (mm_A g) ((mm_wl g h).set (mm_pos h i) (mm_ad g i, mm_conc g e1))) (hz : H1.size = H.size) : mm_okH g (mm_set h i e1) H1 := by
  rw [mm_wl_set g hg] at hP hD
  obtain ⟨-, -, h1, h2, h3, h4, h5⟩ := hH
  refine ⟨hP, hD, ?_, ?_, ?_, by rw [hz]; exact h4, ?_⟩
  · unfold mm_set; split
    · exact mm_okES_set _ _ _ h1 he
    · exact h1
  · unfold mm_set; split
    · exact h2
    · exact mm_okES_set _ _ _ h2 he
  · unfold mm_set; split <;> exact h3
  · intro t ht
    rw [hz]
    apply h5
    unfold mm_set at ht
    split at ht <;> exact ht
theorem mm_wdle : ∀ (rest : List MV), ((rest.map (mm_cv g)).map fun v => v.category).sum = mm_wd rest
  | [] => rfl
  | v :: t => by
    simp only [List.map_cons, List.sum_cons, mm_wd]
    rw [mm_wdle t]
    cases hv : mm_c1 v with
    | true => rw [mm_cat1 hv]
    | false => rw [mm_cat2 hv]
/-- nothing was added where the sizes are known -/
theorem mm_get_ok {h : HP} {H : Heap} (hH : mm_okH g h H) {i : Nat} {e0 : ME} (hg : mm_get h i = some e0) : mm_okE e0 := by
  unfold mm_get at hg
  split at hg
  · exact mm_okES_get _ _ _ hH.2.2.1 hg
  · exact mm_okES_get _ _ _ hH.2.2.2.1 hg
end MS2
