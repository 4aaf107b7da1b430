/-! what a stretch of code asks for -/
def mm_lenok (ins : Instr) (len : Nat) : Bool := match ins with
  | .bipush _ => Nat.beq len 2
  | .ldc _ => Nat.beq len 2
  | .iload _ => Nat.beq len 2
  | .lload _ => Nat.beq len 2
  | .aload _ => Nat.beq len 2
  | .istore _ => Nat.beq len 2
  | .lstore _ => Nat.beq len 2
  | .astore _ => Nat.beq len 2
  | .newarray _ => Nat.beq len 2
  | .sipush _ => Nat.beq len 3
  | .ldc_w _ => Nat.beq len 3
  | .ldc2_w _ => Nat.beq len 3
  | .getfield _ => Nat.beq len 3
  | .putfield _ => Nat.beq len 3
  | .getstatic _ => Nat.beq len 3
  | .ifCond _ _ => Nat.beq len 3
  | .if_icmp _ _ => Nat.beq len 3
  | .goto _ => Nat.beq len 3
  | .iinc _ _ => Nat.beq len 3
  | .invokevirtual _ => Nat.beq len 3
  | .invokestatic _ => Nat.beq len 3
  | .invokespecial _ => Nat.beq len 3
  | .new _ => Nat.beq len 3
  | .multianewarray _ _ => Nat.beq len 4
  | .tableswitch _ _ _ _ => true
  | .lookupswitch _ _ => true
  | _ => Nat.beq len 1
/-- a call: arguments (the receiver too), cells, slots, whether it may throw, how it is called (0 virtual, 1 static, 2 special) and the receiver's kind, what it does -/
abbrev CE : Type := Nat × Nat × Nat × Bool × (Nat × Nat) × Tr
/-- fields; calls; constants; classes to make; Object's constructor; whether this is a constructor; how it returns; its cells and slots; read-only arrays; statics; where it throws; which list new arrays join -/
abbrev NE : Type := List (Nat × Nat × Nat) × List (Nat × CE) × List (Nat × MV) × List (Nat × Nat × List MV) × List Nat × Bool × Nat × (Nat × Nat) × List (Nat × Nat × (Int → Int)) × List (Nat × Nat) × List (Nat × String) × Bool
def ne_ft (E : NE) := E.1
def ne_ct (E : NE) := E.2.1
def ne_lt (E : NE) := E.2.2.1
def ne_nt (E : NE) := E.2.2.2.1
def ne_oi (E : NE) := E.2.2.2.2.1
def ne_ini (E : NE) := E.2.2.2.2.2.1
def ne_rk (E : NE) := E.2.2.2.2.2.2.1
def ne_rc (E : NE) := E.2.2.2.2.2.2.2.1.1
def ne_rs (E : NE) := E.2.2.2.2.2.2.2.1.2
def ne_ro (E : NE) := E.2.2.2.2.2.2.2.2.1
def ne_gs (E : NE) := E.2.2.2.2.2.2.2.2.2.1
def ne_tt (E : NE) := E.2.2.2.2.2.2.2.2.2.2.1
def ne_rg (E : NE) := E.2.2.2.2.2.2.2.2.2.2.2
def mm_ldI (l : LV) (i : Nat) : Option Int := match l[i]? with
  | some (some (.inl z)) => some z
  | _ => none
def mm_ldL (l : LV) (i : Nat) : Option Int64 := match l[i]? with
  | some (some (.inr (.inl x))) => some x
  | _ => none
def mm_ldA (l : LV) (i : Nat) : Option (Option Nat ⊕ Nat) := match l[i]? with
  | some (some (.inr (.inr x))) => some x
  | _ => none
def mm_rcv (ci : Nat) (av : List MV) (h : HP) : Bool := match av with
  | .inr (.inr (.inl (some a))) :: _ => match mm_get h a with
    | some (.inl (cj, _)) => Nat.beq ci cj
    | _ => false
  | _ => false
def mm_rc (w : Nat) (ck : Nat × Nat) (av : List MV) (h : HP) : Bool := Nat.beq ck.1 w && (Nat.beq w 1 || mm_rcv ck.2 av h)
def mm_mem (t : Nat) : List Nat → Bool
  | [] => false
  | k :: r => match Nat.beq k t with
    | true => true
    | false => mm_mem t r
/-- how fields are: 0 int, 1 boolean, 2 a reference; whether final -/
def mm_fks : List (List (Nat × Bool)) := [
  [(2, true), (2, false), (2, false), (2, true)],
  [(0, false), (0, false), (0, false), (0, false), (0, false), (2, true), (2, true), (2, true), (2, true), (2, true), (2, true), (2, true), (2, true)],
  [(0, false), (2, true), (2, true), (2, true), (2, true)],
  [(2, true), (0, false), (0, false), (2, true), (2, true), (2, true), (0, false), (0, false), (0, false), (0, false), (0, false), (0, false)],
  [(0, false), (0, false), (0, false), (2, true), (2, true), (2, true), (2, true), (0, false)],
  [(2, true), (0, false)],
  [(2, true), (2, true), (2, true)],
  [(2, true), (2, true), (0, false), (0, false), (0, false)],
  [(2, true), (2, true), (2, true), (2, true), (0, false)],
  [(2, true), (2, true), (2, true), (2, true), (2, true), (2, true), (2, true), (2, true), (2, true), (2, true), (2, true), (0, false), (0, false)],
  [(2, true), (0, false), (0, false), (0, false), (0, false), (0, false), (0, false), (2, true), (2, true), (2, true), (2, true), (2, true), (2, true), (2, true), (0, false), (0, false), (2, true), (2, true), (2, true), (2, true), (2, true), (2, true), (2, true), (0, false), (2, true), (2, true), (2, true), (2, true), (0, false), (0, false), (0, false), (0, false), (0, false), (0, false), (0, false), (0, false), (0, false), (0, false), (0, false), (1, false), (1, false), (2, true), (2, true), (2, true), (2, true), (2, true), (2, true), (0, false), (0, false), (2, true), (2, true), (2, true), (0, false)]]
def mm_fk (ci k : Nat) : Option (Nat × Bool) := match mm_fks[ci]? with
  | some l => l[k]?
  | none => none
def mm_akind (ty : ArrayType) : Option Nat := match ty with
  | .int => some 0
  | .boolean => some 1
  | .byte => some 2
  | .long => some 3
  | _ => none
def mm_push (b : Bool) (h : HP) (t : Nat) (e : ME) : Option (Nat × HP) := match b with
  | true => match Nat.beq (mm_off h.2.1.length) t && Nat.blt h.2.1.length 1000 with
    | true => some (h.2.1.length, (some (t + 1), h.2.1 ++ [e], h.2.2))
    | false => none
  | false => match Nat.beq (mm_off (1000 + h.2.2.1.length)) t && Nat.blt h.2.2.1.length 1000 with
    | true => some (1000 + h.2.2.1.length, (some (t + 1), h.2.1, h.2.2.1 ++ [e], h.2.2.2))
    | false => none
/-- the new stack and heap, the cells and slots that came -/
def mm_alloc (E : NE) (ins : Instr) (st : List MV) (h : HP) : Option (List MV × HP × Nat × Nat) := match ins with
  | .new i => match mm_look (ne_nt E) i with
    | some (ci, fs) => match h.1 with
      | some t => match mm_push (!(Nat.beq ci 10)) h t (eO ci fs) with
        | some (k, h') => some (mR k :: st, h', 1, fs.length)
        | none => none
      | none => none
    | none => none
  | .newarray ty => match st with
    | .inl n :: r => match h.1 with
      | some t => match n with
        | .ofNat n' => match mm_akind ty with
          | some 3 => match mm_push (ne_rg E) h t (eL n' (fun _ => 0)) with
            | some (k, h') => some (mR k :: r, h', 1, n')
            | none => none
          | some kd => match mm_push (ne_rg E) h t (eI kd n' (fun _ => 0)) with
            | some (k, h') => some (mR k :: r, h', 1, n')
            | none => none
          | none => none
        | .negSucc _ => none
      | none => none
    | _ => none
  | .multianewarray _ 2 => match st with
    | .inl m :: .inl n :: r => match h.1 with
      | some t => match n with
        | .ofNat n' => match decide (m = 220) && (List.range n').all (fun j => Nat.beq (mm_offr (h.2.2.2.1 + j)) (t + 1 + j)) with
          | true => match mm_push true h t (eG n' h.2.2.2.1) with
            | some (k, h') => some (mR k :: r, (some (t + 1 + n'), h'.2.1, h'.2.2.1, h'.2.2.2.1 + n', fun q => match Nat.blt q h.2.2.2.1 with | true => h.2.2.2.2 q | false => fun _ => 0), 1 + n', n' + n' * 220)
            | none => none
          | false => none
        | .negSucc _ => none
      | none => none
    | _ => none
  | _ => none
def mm_rk (k : Nat) (ins : Instr) (r : Option MV) : Prop := match ins with
  | .return_ => k = 0 ∧ r = none
  | .ireturn => match r with
    | some (.inl z) => k = 1 ∨ (k = 2 ∧ (z = 0 ∨ z = 1))
    | _ => False
  | .lreturn => match r with
    | some (.inr (.inl _)) => k = 3
    | _ => False
  | .areturn => match r with
    | some (.inr (.inr (.inr _))) => k = 4
    | _ => False
  | _ => False
def mm_w1 (E : NE) (ins : Instr) (l : LV) (st : List MV) (h : HP) (cn sn : Nat) (go : LV → List MV → HP → Nat → Nat → Prop) (jm : Int → LV → List MV → HP → Nat → Nat → Prop) (N : Option MV → HP → Prop) (X : String → HP → Prop) : Prop :=
  match mm_p0 (ne_lt E) ins st with
  | some st' => go l st' h cn sn
  | none => match mm_p1 ins st with
    | some (P, st') => P ∧ go l st' h cn sn
    | none => match ins with
      | .iload i => match mm_ldI l i with
        | some z => go l (mI z :: st) h cn sn
        | none => False
      | .iload_n i => match mm_ldI l i.val with
        | some z => go l (mI z :: st) h cn sn
        | none => False
      | .lload i => match mm_ldL l i with
        | some x => go l (mL x :: st) h cn sn
        | none => False
      | .lload_n i => match mm_ldL l i.val with
        | some x => go l (mL x :: st) h cn sn
        | none => False
      | .aload i => match mm_ldA l i with
        | some x => go l (.inr (.inr x) :: st) h cn sn
        | none => False
      | .aload_n i => match mm_ldA l i.val with
        | some x => go l (.inr (.inr x) :: st) h cn sn
        | none => False
      | .istore i => match st with
        | .inl z :: r => match Nat.blt i l.length with
          | true => go (mm_lset l i (mI z)) r h cn sn
          | false => False
        | _ => False
      | .istore_n i => match st with
        | .inl z :: r => match Nat.blt i.val l.length with
          | true => go (mm_lset l i.val (mI z)) r h cn sn
          | false => False
        | _ => False
      | .lstore i => match st with
        | .inr (.inl x) :: r => match Nat.blt (i + 1) l.length with
          | true => go (mm_lset l i (mL x)) r h cn sn
          | false => False
        | _ => False
      | .lstore_n i => match st with
        | .inr (.inl x) :: r => match Nat.blt (i.val + 1) l.length with
          | true => go (mm_lset l i.val (mL x)) r h cn sn
          | false => False
        | _ => False
      | .astore i => match st with
        | .inr (.inr x) :: r => match Nat.blt i l.length with
          | true => go (mm_lset l i (.inr (.inr x))) r h cn sn
          | false => False
        | _ => False
      | .astore_n i => match st with
        | .inr (.inr x) :: r => match Nat.blt i.val l.length with
          | true => go (mm_lset l i.val (.inr (.inr x))) r h cn sn
          | false => False
        | _ => False
      | .iinc i k => match mm_ldI l i with
        | some z => mm_rng (z + k) ∧ go (mm_lset l i (mI (z + k))) st h cn sn
        | none => False
      | .ifCond c o => match st with
        | .inl a :: r => mm_br c a 0 (jm o l r h cn sn) (go l r h cn sn)
        | _ => False
      | .if_icmp c o => match st with
        | .inl b :: .inl a :: r => mm_br c a b (jm o l r h cn sn) (go l r h cn sn)
        | _ => False
      | .goto o => jm o l st h cn sn
      | .tableswitch d lo hi os => match st with
        | .inl a :: r => match decide (hi + 1 = lo + (os.size : Int)) with
          | true => (a < lo ∨ hi < a → jm d l r h cn sn) ∧ mm_ts a (fun o => jm o l r h cn sn) lo os.toList
          | false => False
        | _ => False
      | .lookupswitch d ps => match st with
        | .inl a :: r => match (ps.toList.zip (ps.toList.drop 1)).all (fun q => decide (q.1.1 < q.2.1)) with
          | true => mm_ls a (fun o => jm o l r h cn sn) d ps.toList
          | false => False
        | _ => False
      | .getfield i => match st with
        | .inr (.inr (.inl (some a))) :: r => match mm_look (ne_ft E) i with
          | some (ci, k) => match mm_get h a with
            | some (.inl (cj, fs)) => match Nat.beq ci cj with
              | true => match fs[k]? with
                | some v => go l (v :: r) h cn sn
                | none => False
              | false => False
            | _ => False
          | none => False
        | _ => False
      | .putfield i => match st with
        | v :: .inr (.inr (.inl (some a))) :: r => match mm_look (ne_ft E) i with
          | some (ci, k) => match mm_get h a with
            | some (.inl (cj, fs)) => match Nat.beq ci cj && Nat.blt k fs.length with
              | true => match mm_fk ci k with
                | some (kd, fin) => match fin && !(ne_ini E) with
                  | true => False
                  | false => match v with
                    | .inl z => match kd with
                      | 0 => go l r (mm_set h a (eO ci (fs.set k (mI z)))) cn sn
                      | 1 => (z = 0 ∨ z = 1) ∧ go l r (mm_set h a (eO ci (fs.set k (mI z)))) cn sn
                      | _ => False
                    | .inr (.inr (.inl x)) => match kd with
                      | 2 => go l r (mm_set h a (eO ci (fs.set k (.inr (.inr (.inl x)))))) cn sn
                      | _ => False
                    | _ => False
                | none => False
              | false => False
            | _ => False
          | none => False
        | _ => False
      | .getstatic i => match mm_look (ne_gs E) i with
        | some a => go l (mR a :: st) h cn sn
        | none => False
      | .iaload => match st with
        | .inl j :: .inr (.inr (.inl (some a))) :: r => match Nat.blt a 2000 with
          | true => match mm_get h a with
            | some (.inr (.inl (0, n, f))) => (0 ≤ j ∧ j < (n : Int)) ∧ go l (mI (f j) :: r) h cn sn
            | _ => False
          | false => match mm_look (ne_ro E) a with
            | some (n, f) => (0 ≤ j ∧ j < (n : Int)) ∧ go l (mI (f j) :: r) h cn sn
            | none => False
        | .inl j :: .inr (.inr (.inr q)) :: r => (q < h.2.2.2.1 ∧ 0 ≤ j ∧ j < 220) ∧ go l (mI (h.2.2.2.2 q j) :: r) h cn sn
        | _ => False
      | .baload => match st with
        | .inl j :: .inr (.inr (.inl (some a))) :: r => match mm_get h a with
          | some (.inr (.inl (k, n, f))) => match k with
            | 1 => (0 ≤ j ∧ j < (n : Int)) ∧ go l (mI (f j) :: r) h cn sn
            | 2 => (0 ≤ j ∧ j < (n : Int)) ∧ go l (mI (f j) :: r) h cn sn
            | _ => False
          | _ => False
        | _ => False
      | .laload => match st with
        | .inl j :: .inr (.inr (.inl (some a))) :: r => match mm_get h a with
          | some (.inr (.inr (.inl (n, f)))) => (0 ≤ j ∧ j < (n : Int)) ∧ go l (mL (f j) :: r) h cn sn
          | _ => False
        | _ => False
      | .aaload => match st with
        | .inl j :: .inr (.inr (.inl (some a))) :: r => match mm_get h a with
          | some (.inr (.inr (.inr (n, b)))) => (0 ≤ j ∧ j < (n : Int)) ∧ go l (mQ (b + j.toNat) :: r) h cn sn
          | _ => False
        | _ => False
      | .iastore => match st with
        | .inl v :: .inl j :: .inr (.inr (.inl (some a))) :: r => match Nat.blt a 2000 with
          | true => match mm_get h a with
            | some (.inr (.inl (0, n, f))) => (0 ≤ j ∧ j < (n : Int)) ∧ go l r (mm_set h a (eI 0 n (mm_upd f j v))) cn sn
            | _ => False
          | false => False
        | .inl v :: .inl j :: .inr (.inr (.inr q)) :: r => (q < h.2.2.2.1 ∧ 0 ≤ j ∧ j < 220) ∧ go l r (mm_setR h q (mm_upd (h.2.2.2.2 q) j v)) cn sn
        | _ => False
      | .bastore => match st with
        | .inl v :: .inl j :: .inr (.inr (.inl (some a))) :: r => match mm_get h a with
          | some (.inr (.inl (k, n, f))) => match k with
            | 1 => ((v = 0 ∨ v = 1) ∧ 0 ≤ j ∧ j < (n : Int)) ∧ go l r (mm_set h a (eI 1 n (mm_upd f j v))) cn sn
            | 2 => ((-128 ≤ v ∧ v ≤ 127) ∧ 0 ≤ j ∧ j < (n : Int)) ∧ go l r (mm_set h a (eI 2 n (mm_upd f j v))) cn sn
            | _ => False
          | _ => False
        | _ => False
      | .lastore => match st with
        | .inr (.inl v) :: .inl j :: .inr (.inr (.inl (some a))) :: r => match mm_get h a with
          | some (.inr (.inr (.inl (n, f)))) => (0 ≤ j ∧ j < (n : Int)) ∧ go l r (mm_set h a (eL n (mm_updL f j v))) cn sn
          | _ => False
        | _ => False
      | .arraylength => match st with
        | .inr (.inr (.inl (some a))) :: r => match Nat.blt a 2000 with
          | true => match mm_get h a with
            | some (.inr (.inl (_, n, _))) => go l (mI (n : Int) :: r) h cn sn
            | some (.inr (.inr (.inl (n, _)))) => go l (mI (n : Int) :: r) h cn sn
            | _ => False
          | false => match mm_look (ne_ro E) a with
            | some (n, _) => go l (mI (n : Int) :: r) h cn sn
            | none => False
        | .inr (.inr (.inr q)) :: r => q < h.2.2.2.1 ∧ go l (mI 220 :: r) h cn sn
        | _ => False
      | .invokevirtual i => match mm_look (ne_ct E) i with
        | some (n, mc, ms, th, ck, T) => match Nat.ble n st.length && (Nat.ble (mm_wd (st.drop n)) 8 && (Nat.ble (cn + mc) (ne_rc E) && (Nat.ble (sn + ms) (ne_rs E) && mm_rc 0 ck (st.take n).reverse h))) with
          | true => T (st.take n).reverse h (fun r h' => go l (r.toList ++ st.drop n) h' (cn + mc) (sn + ms)) (match th with | true => X | false => fun _ _ => False)
          | false => False
        | none => False
      | .invokestatic i => match mm_look (ne_ct E) i with
        | some (n, mc, ms, th, ck, T) => match Nat.ble n st.length && (Nat.ble (mm_wd (st.drop n)) 8 && (Nat.ble (cn + mc) (ne_rc E) && (Nat.ble (sn + ms) (ne_rs E) && mm_rc 1 ck (st.take n).reverse h))) with
          | true => T (st.take n).reverse h (fun r h' => go l (r.toList ++ st.drop n) h' (cn + mc) (sn + ms)) (match th with | true => X | false => fun _ _ => False)
          | false => False
        | none => False
      | .invokespecial i => match mm_mem i (ne_oi E) with
        | true => match st with
          | .inr (.inr (.inl (some _))) :: r => match Nat.ble (mm_wd r) 8 with
            | true => go l r h cn sn
            | false => False
          | _ => False
        | false => match mm_look (ne_ct E) i with
          | some (n, mc, ms, th, ck, T) => match Nat.ble n st.length && (Nat.ble (mm_wd (st.drop n)) 8 && (Nat.ble (cn + mc) (ne_rc E) && (Nat.ble (sn + ms) (ne_rs E) && mm_rc 2 ck (st.take n).reverse h))) with
            | true => T (st.take n).reverse h (fun r h' => go l (r.toList ++ st.drop n) h' (cn + mc) (sn + ms)) (match th with | true => X | false => fun _ _ => False)
            | false => False
          | none => False
      | .ireturn => match st with
        | .inl z :: [] => match Nat.ble cn (ne_rc E) && Nat.ble sn (ne_rs E) with
          | true => match ne_rk E with
            | 1 => N (some (mI z)) h
            | 2 => (z = 0 ∨ z = 1) ∧ N (some (mI z)) h
            | _ => False
          | false => False
        | _ => False
      | .lreturn => match st with
        | .inr (.inl x) :: [] => match Nat.ble cn (ne_rc E) && (Nat.ble sn (ne_rs E) && Nat.beq (ne_rk E) 3) with
          | true => N (some (mL x)) h
          | false => False
        | _ => False
      | .areturn => match st with
        | .inr (.inr (.inr q)) :: [] => match Nat.ble cn (ne_rc E) && (Nat.ble sn (ne_rs E) && Nat.beq (ne_rk E) 4) with
          | true => N (some (mQ q)) h
          | false => False
        | _ => False
      | .return_ => match st with
        | [] => match Nat.ble cn (ne_rc E) && (Nat.ble sn (ne_rs E) && Nat.beq (ne_rk E) 0) with
          | true => N none h
          | false => False
        | _ => False
      | _ => match mm_alloc E ins st h with
        | some (st', h', a, b) => match Nat.ble (cn + a) (ne_rc E) && Nat.ble (sn + b) (ne_rs E) with
          | true => go l st' h' (cn + a) (sn + b)
          | false => False
        | none => False
def mm_at (cd : MC) (t : Nat) : MC := cd.dropWhile (fun q => !(Nat.beq q.1 t))
def mm_nx (cuts : List Nat) (K : Nat → LV → List MV → HP → Nat → Nat → Prop) (go : MC → LV → List MV → HP → Nat → Nat → Prop) (t : Nat) (sfx : MC) (l : LV) (st : List MV) (h : HP) (cn sn : Nat) : Prop :=
  match mm_mem t cuts with
  | true => K t l st h cn sn
  | false => match sfx with
    | [] => False
    | q :: r => match Nat.beq q.1 t with
      | true => go (q :: r) l st h cn sn
      | false => False
def mm_wp (E : NE) (cd : MC) (cuts : List Nat) (K : Nat → LV → List MV → HP → Nat → Nat → Prop) (N : Option MV → HP → Prop) (X : String → HP → Prop) : Nat → MC → LV → List MV → HP → Nat → Nat → Prop
  | 0, _, _, _, _, _, _ => False
  | _ + 1, [], _, _, _, _, _ => False
  | f + 1, q :: tl, l, st, h, cn, sn => match mm_lenok q.2.1 q.2.2 with
    | false => False
    | true => match mm_look (ne_tt E) q.1 with
      | some en => match Nat.ble (mm_wd st) 8 && (Nat.ble (cn + 1) (ne_rc E) && Nat.ble (sn + 6) (ne_rs E)) with
        | true => X en (none, h.2)
        | false => False
      | none => mm_w1 E q.2.1 l st h cn sn (fun l' st' h' cn' sn' => mm_nx cuts K (mm_wp E cd cuts K N X f) (q.1 + q.2.2) tl l' st' h' cn' sn')
          (fun o l' st' h' cn' sn' => mm_nx cuts K (mm_wp E cd cuts K N X f) ((q.1 : Int) + o).toNat (mm_at cd ((q.1 : Int) + o).toNat) l' st' h' cn' sn') N X
/-- the jumps lead forward of the start -/
def mm_insok (pc : Nat) (ins : Instr) : Bool := match ins with
  | .ifCond _ o => decide (0 ≤ (pc : Int) + o)
  | .if_icmp _ o => decide (0 ≤ (pc : Int) + o)
  | .goto o => decide (0 ≤ (pc : Int) + o)
  | .tableswitch d _ _ os => decide (0 ≤ (pc : Int) + d) && os.toList.all (fun o => decide (0 ≤ (pc : Int) + o))
  | .lookupswitch d ps => decide (0 ≤ (pc : Int) + d) && ps.toList.all (fun q => decide (0 ≤ (pc : Int) + q.2))
  | _ => true
def mm_codeok (cd : MC) : Bool := cd.all (fun q => mm_insok q.1 q.2.1)
/-- run from pc on, at least a step, up to the cuts -/
def mm_run (E : NE) (cd : MC) (cuts : List Nat) (K : Nat → LV → List MV → HP → Nat → Nat → Prop) (N : Option MV → HP → Prop) (X : String → HP → Prop) (pc : Nat) (l : LV) (st : List MV) (h : HP) (cn sn : Nat) : Prop :=
  match mm_at cd pc with
  | [] => False
  | q :: r => match Nat.beq q.1 pc with
    | true => mm_wp E cd cuts K N X 100000 (q :: r) l st h cn sn
    | false => False
/-- K holds wherever a run of the small machine leads to it -/
def mm_Cl (E : NE) (cd : MC) (N : Option MV → HP → Prop) (X : String → HP → Prop) (K : Nat → LV → List MV → HP → Nat → Nat → Prop) : Prop :=
  ∀ (cuts : List Nat) (pc : Nat) (l : LV) (st : List MV) (h : HP) (cn sn : Nat), mm_run E cd cuts K N X pc l st h cn sn → K pc l st h cn sn
def mm_lay : List MV → LV
  | [] => []
  | v :: t => match mm_c1 v with
    | true => some v :: mm_lay t
    | false => some v :: none :: mm_lay t
def mm_entry (nL : Nat) (av : List MV) : LV := mm_lay av ++ List.replicate (nL - (mm_lay av).length) none
/-- the method does what T says -/
def mm_Spec (E : NE) (cd : MC) (nL : Nat) (T : Tr) : Prop :=
  ∀ (N : Option MV → HP → Prop) (X : String → HP → Prop) (K : Nat → LV → List MV → HP → Nat → Nat → Prop) (av : List MV) (h : HP), mm_Cl E cd N X K → T av h N X → Nat.ble (mm_lay av).length nL = true ∧ K 0 (mm_entry nL av) [] h 0 0
