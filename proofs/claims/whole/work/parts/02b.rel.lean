/-! how the small machine's heap, locals and stack lie in the real one -/
/-- tables' numbers, the array classes by kind, the base address, where the read-only arrays lie -/
abbrev SG : Type := va_G × (Nat → ClassId) × Nat × (Nat → Nat)
def mm_off (i : Nat) : Nat := match Nat.blt i 16 with
  | true => i
  | false => match Nat.blt i 33 with
    | true => i + 8
    | false => match Nat.blt i 1000 with
      | true => i + 24
      | false => i - 941
def mm_offr (r : Nat) : Nat := match Nat.blt r 8 with
  | true => 16 + r
  | false => 33 + r
def mm_ad (g : SG) (i : Nat) : Nat := match Nat.blt i 2000 with
  | true => g.2.2.1 + mm_off i
  | false => g.2.2.2 i
def mm_ar (g : SG) (r : Nat) : Nat := g.2.2.1 + mm_offr r
def mm_cv (g : SG) : MV → Value
  | .inl z => .int (Int32.ofInt z)
  | .inr (.inl x) => .long x
  | .inr (.inr (.inl none)) => .null
  | .inr (.inr (.inl (some i))) => .ref (mm_ad g i)
  | .inr (.inr (.inr r)) => .ref (mm_ar g r)
def mm_okV : MV → Prop
  | .inl z => mm_rng z
  | _ => True
def mm_okS : List MV → Prop
  | [] => True
  | v :: t => mm_okV v ∧ mm_okS t
def mm_conc (g : SG) : ME → va_E
  | .inl (ci, fs) => .inr (ci, fs.map (mm_cv g))
  | .inr (.inl (k, n, f)) => .inl (g.2.1 k, n, .inl (fun j => Int32.ofInt (f (j : Int))))
  | .inr (.inr (.inl (n, f))) => .inl (g.2.1 3, n, .inr (.inl (fun j => f (j : Int))))
  | .inr (.inr (.inr (n, b))) => .inl (g.2.1 4, n, .inr (.inr (.inr (.inr (fun j => some (mm_ar g (b + j)))))))
def mm_okE : ME → Prop
  | .inl (_, fs) => mm_okS fs
  | .inr (.inl (k, n, f)) => (k = 0 ∨ k = 1 ∨ k = 2) ∧ (∀ j : Nat, j < n → mm_rng (f j)) ∧ (k = 1 → ∀ j : Nat, j < n → f j = 0 ∨ f j = 1) ∧ (k = 2 → ∀ j : Nat, j < n → -128 ≤ f j ∧ f j ≤ 127) ∧ n < 2147483648
  | .inr (.inr (.inl (n, _))) => n < 2147483648
  | .inr (.inr (.inr (n, _))) => n < 2147483648
def mm_okES : List ME → Prop
  | [] => True
  | e :: t => mm_okE e ∧ mm_okES t
def mm_wC (g : SG) : Nat → List ME → va_W
  | _, [] => []
  | k, e :: t => (mm_ad g k, mm_conc g e) :: mm_wC g (k + 1) t
def mm_row (g : SG) (f : Int → Int) : va_E := .inl (g.2.1 0, 220, .inl (fun j => Int32.ofInt (f (j : Int))))
def mm_wR (g : SG) (n : Nat) (rows : Nat → Int → Int) : va_W := (List.range n).map (fun r => (mm_ar g r, mm_row g (rows r)))
def mm_wl (g : SG) (h : HP) : va_W := mm_wC g 0 h.2.1 ++ (mm_wC g 1000 h.2.2.1 ++ mm_wR g h.2.2.2.1 h.2.2.2.2)
def mm_pos (h : HP) (i : Nat) : Nat := match Nat.blt i 1000 with
  | true => i
  | false => h.2.1.length + (i - 1000)
theorem mm_wC_len (g : SG) : ∀ (L : List ME) (k : Nat), (mm_wC g k L).length = L.length
  | [], _ => rfl
  | e :: t, k => by simp [mm_wC, mm_wC_len g t (k + 1)]
theorem mm_wC_get (g : SG) : ∀ (L : List ME) (k i : Nat) (e : ME), L[i]? = some e → (mm_wC g k L)[i]? = some (mm_ad g (k + i), mm_conc g e)
  | [], _, _, _, h => by simp at h
  | x :: t, k, 0, e, h => by
    simp at h
    subst h
    simp [mm_wC]
  | x :: t, k, i + 1, e, h => by
    simp only [List.getElem?_cons_succ] at h
    have h1 := mm_wC_get g t (k + 1) i e h
    rw [show k + 1 + i = k + (i + 1) by omega] at h1
    simpa [mm_wC] using h1
theorem mm_wC_set (g : SG) : ∀ (L : List ME) (k i : Nat) (e : ME), (mm_wC g k L).set i (mm_ad g (k + i), mm_conc g e) = mm_wC g k (L.set i e)
  | [], _, _, _ => rfl
  | x :: t, k, 0, e => by simp [mm_wC]
  | x :: t, k, i + 1, e => by
    have h1 := mm_wC_set g t (k + 1) i e
    rw [show k + 1 + i = k + (i + 1) by omega] at h1
    simp [mm_wC, h1]
theorem mm_wR_len (g : SG) (n : Nat) (rows : Nat → Int → Int) : (mm_wR g n rows).length = n := by simp [mm_wR]
theorem mm_wR_get (g : SG) {n r : Nat} (rows : Nat → Int → Int) (h : r < n) : (mm_wR g n rows)[r]? = some (mm_ar g r, mm_row g (rows r)) := by
  simp [mm_wR, h]
theorem mm_wR_set (g : SG) {n r : Nat} (rows : Nat → Int → Int) (h : r < n) (f : Int → Int) : (mm_wR g n rows).set r (mm_ar g r, mm_row g f) = mm_wR g n (mm_updR rows r f) := by
  apply List.ext_getElem?
  intro i
  by_cases hi : i = r
  · subst hi
    rw [List.getElem?_set_self (by rw [mm_wR_len]; exact h), mm_wR_get g _ h]
    simp [mm_updR]
  · rw [List.getElem?_set_ne (Ne.symm hi)]
    by_cases hn : i < n
    · rw [mm_wR_get g _ hn, mm_wR_get g _ hn]
      simp [mm_updR, hi]
    · rw [List.getElem?_eq_none (by rw [mm_wR_len]; omega), List.getElem?_eq_none (by rw [mm_wR_len]; omega)]
theorem mm_blt_t {a b : Nat} (h : Nat.blt a b = true) : a < b := Nat.le_of_ble_eq_true h
theorem mm_blt_f {a b : Nat} (h : Nat.blt a b = false) : b ≤ a := by
  rcases Nat.lt_or_ge a b with q | q
  · have : Nat.blt a b = true := Nat.ble_eq_true_of_le q
    rw [this] at h
    cases h
  · exact q
theorem mm_wl_get (g : SG) {h : HP} {i : Nat} {e : ME} (he : mm_get h i = some e) : (mm_wl g h)[mm_pos h i]? = some (mm_ad g i, mm_conc g e) := by
  unfold mm_get at he
  unfold mm_wl mm_pos
  split at he
  · rename_i hb
    have h1 := mm_wC_get g h.2.1 0 i e he
    have hl : i < (mm_wC g 0 h.2.1).length := by rw [mm_wC_len]; exact (List.getElem?_eq_some_iff.mp he).1
    simp only [hb]
    rw [List.getElem?_append_left hl, h1, Nat.zero_add]
  · rename_i hb
    have h1 := mm_wC_get g h.2.2.1 1000 (i - 1000) e he
    have hb2 := mm_blt_f hb
    have hl : i - 1000 < (mm_wC g 1000 h.2.2.1).length := by rw [mm_wC_len]; exact (List.getElem?_eq_some_iff.mp he).1
    simp only [hb]
    rw [List.getElem?_append_right (by rw [mm_wC_len]; omega), mm_wC_len, Nat.add_sub_cancel_left, List.getElem?_append_left hl, h1, show 1000 + (i - 1000) = i by omega]
theorem mm_wl_set (g : SG) {h : HP} {i : Nat} {e0 : ME} (he : mm_get h i = some e0) (e : ME) : (mm_wl g h).set (mm_pos h i) (mm_ad g i, mm_conc g e) = mm_wl g (mm_set h i e) := by
  unfold mm_get at he
  unfold mm_wl mm_pos mm_set
  split at he
  · rename_i hb
    have hl : i < (mm_wC g 0 h.2.1).length := by rw [mm_wC_len]; exact (List.getElem?_eq_some_iff.mp he).1
    have h1 := mm_wC_set g h.2.1 0 i e
    rw [Nat.zero_add] at h1
    simp only [hb]
    rw [List.set_append_left _ _ hl, h1]
  · rename_i hb
    have hb2 := mm_blt_f hb
    have hl : i - 1000 < (mm_wC g 1000 h.2.2.1).length := by rw [mm_wC_len]; exact (List.getElem?_eq_some_iff.mp he).1
    have h1 := mm_wC_set g h.2.2.1 1000 (i - 1000) e
    rw [show 1000 + (i - 1000) = i by omega] at h1
    simp only [hb]
    rw [List.set_append_right _ _ (by rw [mm_wC_len]; omega), mm_wC_len, Nat.add_sub_cancel_left, List.set_append_left _ _ hl, h1]
theorem mm_wl_getR (g : SG) {h : HP} {r : Nat} (hr : r < h.2.2.2.1) : (mm_wl g h)[h.2.1.length + (h.2.2.1.length + r)]? = some (mm_ar g r, mm_row g (h.2.2.2.2 r)) := by
  unfold mm_wl
  rw [List.getElem?_append_right (by rw [mm_wC_len]; omega), mm_wC_len, Nat.add_sub_cancel_left, List.getElem?_append_right (by rw [mm_wC_len]; omega), mm_wC_len, Nat.add_sub_cancel_left, mm_wR_get g _ hr]
theorem mm_wl_setR (g : SG) {h : HP} {r : Nat} (hr : r < h.2.2.2.1) (f : Int → Int) : (mm_wl g h).set (h.2.1.length + (h.2.2.1.length + r)) (mm_ar g r, mm_row g f) = mm_wl g (mm_setR h r f) := by
  unfold mm_wl mm_setR
  rw [List.set_append_right _ _ (by rw [mm_wC_len]; omega), mm_wC_len, Nat.add_sub_cancel_left, List.set_append_right _ _ (by rw [mm_wC_len]; omega), mm_wC_len, Nat.add_sub_cancel_left, mm_wR_set g _ hr]
theorem mm_okES_get : ∀ (L : List ME) (i : Nat) (e : ME), mm_okES L → L[i]? = some e → mm_okE e
  | [], _, _, _, h => by simp at h
  | x :: t, 0, e, hk, h => by
    simp at h
    subst h
    exact hk.1
  | x :: t, i + 1, e, hk, h => mm_okES_get t i e hk.2 (by simpa using h)
theorem mm_okES_set : ∀ (L : List ME) (i : Nat) (e : ME), mm_okES L → mm_okE e → mm_okES (L.set i e)
  | [], _, _, _, _ => trivial
  | x :: t, 0, e, hk, h => ⟨h, hk.2⟩
  | x :: t, i + 1, e, hk, h => ⟨hk.1, mm_okES_set t i e hk.2 h⟩
theorem mm_okS_get : ∀ (L : List MV) (i : Nat) (v : MV), mm_okS L → L[i]? = some v → mm_okV v
  | [], _, _, _, h => by simp at h
  | x :: t, 0, e, hk, h => by
    simp at h
    subst h
    exact hk.1
  | x :: t, i + 1, e, hk, h => mm_okS_get t i e hk.2 (by simpa using h)
theorem mm_okS_set : ∀ (L : List MV) (i : Nat) (v : MV), mm_okS L → mm_okV v → mm_okS (L.set i v)
  | [], _, _, _, _ => trivial
  | x :: t, 0, e, hk, h => ⟨h, hk.2⟩
  | x :: t, i + 1, e, hk, h => ⟨hk.1, mm_okS_set t i e hk.2 h⟩
theorem mm_okS_app : ∀ (a b : List MV), mm_okS a → mm_okS b → mm_okS (a ++ b)
  | [], _, _, h => h
  | _ :: t, b, h1, h2 => ⟨h1.1, mm_okS_app t b h1.2 h2⟩
theorem mm_okS_of : ∀ (a : List MV), (∀ v ∈ a, mm_okV v) → mm_okS a
  | [], _ => trivial
  | v :: t, h => ⟨h v List.mem_cons_self, mm_okS_of t (fun w hw => h w (List.mem_cons_of_mem _ hw))⟩
theorem mm_okS_mem : ∀ (a : List MV), mm_okS a → ∀ v ∈ a, mm_okV v
  | [], _, v, h => by cases h
  | w :: t, hk, v, h => by
    rcases List.mem_cons.mp h with rfl | h
    · exact hk.1
    · exact mm_okS_mem t hk.2 v h
def mm_A (g : SG) : Nat → Prop := fun q => g.2.2.1 ≤ q
/-- the heap holds the small machine's -/
def mm_okH (g : SG) (h : HP) (H : Heap) : Prop := va_P g.1 vwCl (mm_wl g h) H ∧ va_D (mm_A g) (mm_wl g h) ∧ mm_okES h.2.1 ∧ mm_okES h.2.2.1 ∧ (∀ r : Nat, r < h.2.2.2.1 → ∀ j : Nat, j < 220 → mm_rng (h.2.2.2.2 r j)) ∧ g.2.2.1 ≤ H.size ∧ ∀ t, h.1 = some t → H.size = g.2.2.1 + t
def mm_tys (g : SG) : List (ClassId × FieldType) := [(g.2.1 0, .int), (g.2.1 1, .boolean), (g.2.1 2, .byte), (g.2.1 3, .long), (g.2.1 4, .array .int)]
def mm_lvl (g : SG) : Nat → LV → List (Nat × Value)
  | _, [] => []
  | k, none :: t => mm_lvl g (k + 1) t
  | k, some v :: t => (k, mm_cv g v) :: mm_lvl g (k + 1) t
theorem mm_lvl_mem (g : SG) : ∀ (lv : LV) (k i : Nat) (w : Value), (i, w) ∈ mm_lvl g k lv ↔ ∃ (j : Nat) (v : MV), i = k + j ∧ lv[j]? = some (some v) ∧ w = mm_cv g v
  | [], k, i, w => by simp [mm_lvl]
  | none :: t, k, i, w => by
    rw [mm_lvl, mm_lvl_mem g t (k + 1) i w]
    constructor
    · rintro ⟨j, v, h1, h2, h3⟩
      exact ⟨j + 1, v, by omega, by simpa using h2, h3⟩
    · rintro ⟨j, v, h1, h2, h3⟩
      cases j with
      | zero => simp at h2
      | succ j => exact ⟨j, v, by omega, by simpa using h2, h3⟩
  | some u :: t, k, i, w => by
    rw [mm_lvl, List.mem_cons, mm_lvl_mem g t (k + 1) i w]
    constructor
    · rintro (h | ⟨j, v, h1, h2, h3⟩)
      · cases h
        exact ⟨0, u, rfl, by simp, rfl⟩
      · exact ⟨j + 1, v, by omega, by simpa using h2, h3⟩
    · rintro ⟨j, v, h1, h2, h3⟩
      cases j with
      | zero =>
        simp at h2
        subst h2
        left
        rw [h1, h3]
        rfl
      | succ j => exact Or.inr ⟨j, v, by omega, by simpa using h2, h3⟩
def mm_okL (g : SG) (lv : LV) (ls : Array Slot) (n : Nat) : Prop := lv_has ls n (mm_lvl g 0 lv) ∧ lv.length = n ∧ ∀ v : MV, some v ∈ lv → mm_okV v
theorem mm_ld {g : SG} {lv : LV} {ls : Array Slot} {n i : Nat} {v : MV} (h : mm_okL g lv ls n) (hi : lv[i]? = some (some v)) : ls[i]? = some (.val (mm_cv g v)) ∧ mm_okV v :=
  ⟨h.1.2.2 (i, mm_cv g v) ((mm_lvl_mem g lv 0 i _).mpr ⟨i, v, by omega, hi, rfl⟩), h.2.2 v (List.mem_of_getElem? hi)⟩
theorem mm_cat {g : SG} (v : MV) : (mm_cv g v).category = 2 ↔ mm_c1 v = false := by
  rcases v with z | x | o | r
  · simp [mm_cv, mm_c1, Value.category]
  · simp [mm_cv, mm_c1, Value.category]
  · rcases o with _ | i <;> simp [mm_cv, mm_c1, Value.category]
  · simp [mm_cv, mm_c1, Value.category]
theorem mm_cat1 {g : SG} {v : MV} (h : mm_c1 v = true) : (mm_cv g v).category = 1 := by
  rcases lv_cat (mm_cv g v) with q | q
  · exact q
  · rw [(mm_cat v).mp q] at h
    cases h
theorem mm_cat2 {g : SG} {v : MV} (h : mm_c1 v = false) : (mm_cv g v).category = 2 := (mm_cat v).mpr h
theorem mm_lpre_len (l : LV) (i : Nat) : (mm_lpre l i).length = l.length := by
  cases i with
  | zero => rfl
  | succ k =>
    simp only [mm_lpre]
    split <;> simp
theorem mm_lset_len (l : LV) (i : Nat) (v : MV) : (mm_lset l i v).length = l.length := by
  unfold mm_lset
  split <;> simp [mm_lpre_len]
theorem mm_lpre_get {l : LV} {i j : Nat} {u : MV} (hj : (mm_lpre l i)[j]? = some (some u)) (hne : j ≠ i) : l[j]? = some (some u) ∧ ¬ (j + 1 = i ∧ mm_c1 u = false) := by
  cases i with
  | zero => exact ⟨hj, by omega⟩
  | succ k =>
    simp only [mm_lpre] at hj
    split at hj
    · rename_i x hx
      by_cases e : j = k
      · subst e
        rw [List.getElem?_set] at hj
        simp only [if_true] at hj
        split at hj <;> cases hj
      · rw [List.getElem?_set_ne (Ne.symm e)] at hj
        exact ⟨hj, by omega⟩
    · rename_i hx
      refine ⟨hj, ?_⟩
      rintro ⟨e1, e2⟩
      have e3 : j = k := by omega
      subst e3
      rcases u with z | x | o
      · cases e2
      · exact hx x hj
      · cases o <;> cases e2
theorem mm_lset_key {l : LV} {i j : Nat} {v u : MV} (hj : ((mm_lpre l i).set i (some v))[j]? = some (some u)) : (j = i ∧ u = v) ∨ (j ≠ i ∧ l[j]? = some (some u) ∧ ¬ (j + 1 = i ∧ mm_c1 u = false)) := by
  by_cases e : j = i
  · subst e
    left
    rw [List.getElem?_set] at hj
    simp only [if_true] at hj
    split at hj
    · cases hj; exact ⟨rfl, rfl⟩
    · cases hj
  · right
    rw [List.getElem?_set_ne (Ne.symm e)] at hj
    exact ⟨e, mm_lpre_get hj e⟩
theorem mm_lset_get {l : LV} {i j : Nat} {v u : MV} (h : (mm_lset l i v)[j]? = some (some u)) : (j = i ∧ u = v) ∨ (j ≠ i ∧ l[j]? = some (some u) ∧ ¬ (j + 1 = i ∧ mm_c1 u = false) ∧ (mm_c1 v = false → j ≠ i + 1)) := by
  unfold mm_lset at h
  split at h
  · rename_i hv
    rcases mm_lset_key h with q | ⟨q1, q2, q3⟩
    · exact Or.inl q
    · exact Or.inr ⟨q1, q2, q3, by intro z; rw [hv] at z; cases z⟩
  · by_cases e : j = i + 1
    · subst e
      rw [List.getElem?_set] at h
      simp only [if_true] at h
      split at h <;> cases h
    · rw [List.getElem?_set_ne (Ne.symm e)] at h
      rcases mm_lset_key h with q | ⟨q1, q2, q3⟩
      · exact Or.inl q
      · exact Or.inr ⟨q1, q2, q3, fun _ => e⟩
theorem mm_okL_set {g : SG} {lv : LV} {ls ls' : Array Slot} {n i : Nat} {v : MV} (h : mm_okL g lv ls n) (hv : mm_okV v)
    (h' : lv_has ls' n ((i, mm_cv g v) :: (mm_lvl g 0 lv).filter (fun q => !(q.1 == i) && !(q.1 + 1 == i && q.2.category == 2)))) (hc : mm_c1 v = true) : mm_okL g (mm_lset lv i v) ls' n := by
  refine ⟨⟨h'.1, h'.2.1, fun q hq => ?_⟩, by rw [mm_lset_len]; exact h.2.1, fun w hw => ?_⟩
  · obtain ⟨j, u, e1, e2, e3⟩ := (mm_lvl_mem g _ 0 q.1 q.2).mp hq
    rw [Nat.zero_add] at e1
    apply h'.2.2
    rcases mm_lset_get e2 with ⟨a, b⟩ | ⟨a, b, d, -⟩
    · exact List.mem_cons.mpr (Or.inl (Prod.ext (by rw [e1, a]) (by rw [e3, b])))
    · refine List.mem_cons_of_mem _ ?_
      refine List.mem_filter.mpr ⟨(mm_lvl_mem g lv 0 q.1 q.2).mpr ⟨j, u, by omega, b, e3⟩, ?_⟩
      simp only [Bool.and_eq_true, Bool.not_eq_true', beq_eq_false_iff_ne, ne_eq, Bool.and_eq_false_iff]
      refine ⟨by omega, ?_⟩
      by_cases z : q.1 + 1 = i
      · right
        rw [e3, mm_cat]
        intro z2
        exact d ⟨by omega, z2⟩
      · exact Or.inl z
  · obtain ⟨j, hj⟩ := List.getElem?_of_mem hw
    rcases mm_lset_get hj with ⟨-, b⟩ | ⟨-, b, -⟩
    · rw [b]; exact hv
    · exact h.2.2 w (List.mem_of_getElem? b)
theorem mm_okL_set2 {g : SG} {lv : LV} {ls ls' : Array Slot} {n i : Nat} {v : MV} (h : mm_okL g lv ls n) (hv : mm_okV v)
    (h' : lv_has ls' n ((i, mm_cv g v) :: (mm_lvl g 0 lv).filter (fun q => !(q.1 == i) && (!(q.1 == i + 1) && !(q.1 + 1 == i && q.2.category == 2))))) (hc : mm_c1 v = false) : mm_okL g (mm_lset lv i v) ls' n := by
  refine ⟨⟨h'.1, h'.2.1, fun q hq => ?_⟩, by rw [mm_lset_len]; exact h.2.1, fun w hw => ?_⟩
  · obtain ⟨j, u, e1, e2, e3⟩ := (mm_lvl_mem g _ 0 q.1 q.2).mp hq
    rw [Nat.zero_add] at e1
    apply h'.2.2
    rcases mm_lset_get e2 with ⟨a, b⟩ | ⟨a, b, d, d2⟩
    · exact List.mem_cons.mpr (Or.inl (Prod.ext (by rw [e1, a]) (by rw [e3, b])))
    · refine List.mem_cons_of_mem _ ?_
      refine List.mem_filter.mpr ⟨(mm_lvl_mem g lv 0 q.1 q.2).mpr ⟨j, u, by omega, b, e3⟩, ?_⟩
      have d3 := d2 hc
      simp only [Bool.and_eq_true, Bool.not_eq_true', beq_eq_false_iff_ne, ne_eq, Bool.and_eq_false_iff]
      refine ⟨by omega, by omega, ?_⟩
      by_cases z : q.1 + 1 = i
      · right
        rw [e3, mm_cat]
        intro z2
        exact d ⟨by omega, z2⟩
      · exact Or.inl z
  · obtain ⟨j, hj⟩ := List.getElem?_of_mem hw
    rcases mm_lset_get hj with ⟨-, b⟩ | ⟨-, b, -⟩
    · rw [b]; exact hv
    · exact h.2.2 w (List.mem_of_getElem? b)
/-! numbers -/
theorem mm_rng32 (x : Int32) : mm_rng x.toInt := by
  have h1 := x.le_toInt
  have h2 := x.toInt_lt
  unfold mm_rng
  omega
theorem mm_ti {z : Int} (h : mm_rng z) : (Int32.ofInt z).toInt = z := by
  unfold mm_rng at h
  exact Int32.toInt_ofInt_of_le (by omega) (by omega)
theorem mm_le32 {a b : Int} (ha : mm_rng a) (hb : mm_rng b) : Int32.ofInt a ≤ Int32.ofInt b ↔ a ≤ b := by rw [Int32.le_iff_toInt_le, mm_ti ha, mm_ti hb]
theorem mm_lt32 {a b : Int} (ha : mm_rng a) (hb : mm_rng b) : Int32.ofInt a < Int32.ofInt b ↔ a < b := by rw [Int32.lt_iff_toInt_lt, mm_ti ha, mm_ti hb]
theorem mm_eq32 {a b : Int} (ha : mm_rng a) (hb : mm_rng b) : Int32.ofInt a = Int32.ofInt b ↔ a = b := by rw [← Int32.toInt_inj, mm_ti ha, mm_ti hb]
theorem mm_rng0 : mm_rng 0 := by unfold mm_rng; omega
theorem mm_z32 : (0 : Int32) = Int32.ofInt 0 := rfl
theorem mm_div32 {a b : Int} (ha : mm_rng a) (hb : mm_rng b) (hq : mm_rng (a.tdiv b)) : Int32.ofInt a / Int32.ofInt b = Int32.ofInt (a.tdiv b) := by
  rw [← Int32.toInt_inj, Int32.toInt_div, mm_ti ha, mm_ti hb, mm_ti hq]
  unfold mm_rng at hq
  exact Int.bmod_eq_of_le (by omega) (by omega)
theorem mm_rem32 {a b : Int} (ha : mm_rng a) (hb : mm_rng b) (hq : mm_rng (a.tdiv b)) : Int32.ofInt a - Int32.ofInt a / Int32.ofInt b * Int32.ofInt b = Int32.ofInt (a.tmod b) := by
  rw [mm_div32 ha hb hq, ← Int32.ofInt_mul, ← Int32.ofInt_sub, Int.tmod_def, Int.mul_comm]
theorem mm_tmod_rng {a b : Int} (ha : mm_rng a) (hb : mm_rng b) (h0 : b ≠ 0) : mm_rng (a.tmod b) := by
  have h1 := Int.tmod_lt_of_pos a (b := b.natAbs) (by omega)
  have h2 : a.tmod b.natAbs = a.tmod b := by
    rcases Int.natAbs_eq b with h | h
    · rw [← h]
    · have : (b.natAbs : Int) = -b := by omega
      rw [this, Int.tmod_neg]
  have h3 : -(b.natAbs : Int) < a.tmod b := by
    rw [← h2]
    exact Int.lt_tmod_of_pos a (by omega)
  rw [h2] at h1
  unfold mm_rng at *
  omega
theorem mm_in {j : Int} {n : Nat} (hj : mm_rng j) (h0 : 0 ≤ j) (h1 : j < n) : vp_in (Int32.ofInt j) n := by
  rw [vp_in_iff, mm_ti hj]
  exact ⟨h0, h1⟩
theorem mm_cl {j : Int} (hj : mm_rng j) (h0 : 0 ≤ j) : (((Int32.ofInt j).toNatClampNeg : Nat) : Int) = j := by
  rw [← Int32.toNat_toInt, mm_ti hj]
  omega
