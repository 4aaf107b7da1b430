/-! whole stretches, and a method's contract -/
section MS5
variable {p : Program} {l : Launch} {e : Env} {R : Room} {s : State} {m : MethodId} {args : Array Value} {below : List Frame} {meth : Method} {c : Code} {Q : State → Prop}
variable {cc : ByteArray} {own : String} {g : SG} {E : NE} {cd : MC} {N : Option MV → HP → Prop} {X : String → HP → Prop}
/-- returns, calls, makings and throws are the machine's -/
def mm_Ends (p : Program) (l : Launch) (e : Env) (R : Room) (s : State) (m : MethodId) (args : Array Value) (below : List Frame) (meth : Method) (c : Code) (Q : State → Prop) (cc : ByteArray) (g : SG) (E : NE) (N : Option MV → HP → Prop) (X : String → HP → Prop) : Prop :=
  (∀ (pc : Nat) (ins : Instr) (r : Option MV) (h : HP) (cn sn : Nat) (H : Heap) (locs : List Loc) (ls : Array Slot), decode cc pc = .ok (ins, 1) → mm_rk (ne_rk E) ins r → N r h → cn ≤ ne_rc E → sn ≤ ne_rs E → mm_okH g h H → va_S (mm_A g) s.heap H locs → (∀ v, r = some v → mm_okV v) → W p l e R s m args below meth c H locs cn sn Q (F0 m pc ls (r.toList.map (mm_cv g)))) ∧
  (∀ (pc : Nat) (ins : Instr) (i n mc ms : Nat) (th : Bool) (ck : Nat × Nat) (T : Tr), decode cc pc = .ok (ins, 3) → mm_look (ne_ct E) i = some (n, mc, ms, th, ck, T) → ∀ (av rest : List MV) (lv : LV) (h : HP) (cn sn : Nat) (N' : Option MV → HP → Prop), ((ins = .invokevirtual i ∧ mm_rc 0 ck av h = true) ∨ (ins = .invokestatic i ∧ mm_rc 1 ck av h = true) ∨ (ins = .invokespecial i ∧ mm_rc 2 ck av h = true)) → av.length = n → mm_wd rest ≤ 8 → cn + mc ≤ ne_rc E → sn + ms ≤ ne_rs E → T av h N' (match th with | true => X | false => fun _ _ => False) → (∀ (r : Option MV) (h' : HP), N' r h' → mm_K p l e R s m args below meth c Q g (pc + 3) lv (r.toList ++ rest) h' (cn + mc) (sn + ms)) → mm_K p l e R s m args below meth c Q g pc lv (av.reverse ++ rest) h cn sn) ∧
  (∀ (pc : Nat) (ins : Instr) (len : Nat), (pc, ins, len) ∈ cd → mm_look (ne_tt E) pc = none → decode cc pc = .ok (ins, len) → mm_lenok ins len = true → ∀ (lv : LV) (st st' : List MV) (h h' : HP) (cn sn a b : Nat), mm_alloc E ins st h = some (st', h', a, b) → cn + a ≤ ne_rc E → sn + b ≤ ne_rs E → mm_K p l e R s m args below meth c Q g (pc + len) lv st' h' (cn + a) (sn + b) → mm_K p l e R s m args below meth c Q g pc lv st h cn sn) ∧
  (∀ (pc : Nat) (en : String) (lv : LV) (st : List MV) (h : HP) (cn sn : Nat), (∃ q ∈ cd, q.1 = pc) → mm_look (ne_tt E) pc = some en → mm_wd st ≤ 8 → cn + 1 ≤ ne_rc E → sn + 6 ≤ ne_rs E → X en (none, h.2) → mm_K p l e R s m args below meth c Q g pc lv st h cn sn)
theorem mm_at_mem {t : Nat} : ∀ q ∈ mm_at cd t, q ∈ cd := fun q hq => (List.dropWhile_sublist _).subset hq
theorem mm_wp_sound (C : mm_Ctx p R s m args meth c cc own g E) (hdec : ∀ q ∈ cd, decode cc q.1 = .ok (q.2.1, q.2.2)) (hcok : mm_codeok cd = true) (hE : mm_Ends (cd := cd) p l e R s m args below meth c Q cc g E N X) {cuts : List Nat} :
    ∀ (f : Nat) (q : Nat × Instr × Nat) (tl : MC) (lv : LV) (st : List MV) (h : HP) (cn sn : Nat), (∀ z ∈ q :: tl, z ∈ cd) → mm_wp E cd cuts (mm_K p l e R s m args below meth c Q g) N X f (q :: tl) lv st h cn sn → mm_K p l e R s m args below meth c Q g q.1 lv st h cn sn := by
  intro f
  induction f with
  | zero => intro q tl lv st h cn sn _ hw; cases hw
  | succ f ih =>
    intro q tl lv st h cn sn hsub hw
    have nx : ∀ (t : Nat) (sfx : MC) (lv : LV) (st : List MV) (h : HP) (cn sn : Nat), (∀ z ∈ sfx, z ∈ cd) → mm_nx cuts (mm_K p l e R s m args below meth c Q g) (mm_wp E cd cuts (mm_K p l e R s m args below meth c Q g) N X f) t sfx lv st h cn sn → mm_K p l e R s m args below meth c Q g t lv st h cn sn := by
      intro t sfx lv st h cn sn hs2 hn
      unfold mm_nx at hn
      split at hn
      · exact hn
      · split at hn
        · cases hn
        · rename_i q2 r2
          split at hn
          · rename_i hq
            rw [← Nat.eq_of_beq_eq_true hq]
            exact ih q2 r2 lv st h cn sn hs2 hn
          · cases hn
    have hin := hsub q List.mem_cons_self
    have hd := hdec q hin
    unfold mm_wp at hw
    split at hw
    · cases hw
    · rename_i hl
      split at hw
      · rename_i en hen
        split at hw
        · rename_i hbb
          rw [Bool.and_eq_true, Bool.and_eq_true] at hbb
          exact hE.2.2.2 _ _ _ _ _ _ _ ⟨q, hin, rfl⟩ hen (Nat.le_of_ble_eq_true hbb.1) (Nat.le_of_ble_eq_true hbb.2.1) (Nat.le_of_ble_eq_true hbb.2.2) hw
        · cases hw
      · rename_i htt
        exact mm_w1_sound C hd hl (List.all_eq_true.mp hcok q hin) hw
          (fun lv st h cn sn hn => nx _ _ _ _ _ _ _ (fun z hz => hsub z (List.mem_cons_of_mem _ hz)) hn)
          (fun o lv st h cn sn hn => nx _ _ _ _ _ _ _ mm_at_mem hn) hE.1 hE.2.1 (hE.2.2.1 q.1 q.2.1 q.2.2 hin htt hd hl)
theorem mm_cl_sound (C : mm_Ctx p R s m args meth c cc own g E) (hdec : ∀ q ∈ cd, decode cc q.1 = .ok (q.2.1, q.2.2)) (hcok : mm_codeok cd = true) (hE : mm_Ends (cd := cd) p l e R s m args below meth c Q cc g E N X) : mm_Cl E cd N X (mm_K p l e R s m args below meth c Q g) := by
  intro cuts pc lv st h cn sn hr
  unfold mm_run at hr
  split at hr
  · cases hr
  · rename_i q r hq
    split at hr
    · rename_i hb
      rw [← Nat.eq_of_beq_eq_true hb]
      exact mm_wp_sound C hdec hcok hE _ q r lv st h cn sn (by rw [← hq]; exact mm_at_mem) hr
    · cases hr
end MS5
