/-! the steps that a text tells: their numbers, how many values wait -/
def opok (f : Nat) (o : OP) : Prop := (o.1 = 0 ∧ 0 ≤ o.2.1 ∧ o.2.1 < 10000) ∨ (o.1 = 1 ∧ 0 ≤ o.2.1 ∧ o.2.1 < (fN f : Int)) ∨ (o.1 = 2 ∧ okC f o.2.1 ∧ okE f o.2.2.1) ∨ (o.1 = 3 ∧ okC f o.2.1 ∧ okC f o.2.2.1 ∧ okE f o.2.2.2) ∨ (o.1 = 4 ∧ okE f o.2.1 ∧ okE f o.2.2.1) ∨ (o.1 = 5 ∧ okK f o.2.1 o.2.2.1) ∨ (o.1 = 6 ∧ okP o.2.1) ∨ o.1 = 7 ∨ (o.1 = 8 ∧ okM f o.2.1) ∨ o.1 = 9 ∨ o.1 = 10 ∨ o.1 = 11 ∨ (o.1 = 12 ∧ 0 ≤ o.2.1 ∧ o.2.1 ≤ 20)
def hst (o : OP) (h : Nat) : Option Nat := if o.1 ≤ 6 then (if h ≤ 14 then some (h + 1) else none) else if o.1 = 7 ∨ o.1 = 8 ∨ o.1 = 12 then (if 1 ≤ h ∧ h ≤ 15 then some h else none) else (if 2 ≤ h then some (h - 1) else none)
def hrun : List OP → Nat → Option Nat
  | [], h => some h
  | o :: r, h => match hst o h with
    | some h' => hrun r h'
    | none => none
theorem hrun_app : ∀ (x y : List OP) (h : Nat), hrun (x ++ y) h = match hrun x h with | some h' => hrun y h' | none => none
  | [], y, h => rfl
  | o :: r, y, h => by
    show (match hst o h with | some h' => hrun (r ++ y) h' | none => none) = match (match hst o h with | some h' => hrun r h' | none => none) with | some h' => hrun y h' | none => none
    cases hst o h with
    | none => rfl
    | some h' => exact hrun_app r y h'
theorem hrun_to {x y : List OP} {h h' : Nat} (h1 : hrun x h = some h') : hrun (x ++ y) h = hrun y h' := by rw [hrun_app, h1]
def GO (f c : Nat) (F : Nat → PR (List OP)) : Prop := ∀ (p : Nat) (v : Nat × List OP), F p = .inr v → (∀ o ∈ v.2, opok f o) ∧ ∀ n, n ≤ c → hrun v.2 n = some (n + 1)
theorem numv {x : TP} {c : Nat → Bool} {p : Nat} {v : Nat × Nat} (h : pNum x c p = .inr v) : c v.2 = true := (pNum_val (P := .inr p) h).1
theorem hrun_1 {o : OP} {n : Nat} (ho : o.1 ≤ 6) (hn : n ≤ 14) : hrun [o] n = some (n + 1) := by
  unfold hrun hst
  rw [if_pos ho, if_pos hn]
  rfl
theorem all1 {f : Nat} {o : OP} (h : opok f o) : ∀ q ∈ [o], opok f q := fun q hq => by
  rw [List.mem_singleton] at hq
  rw [hq]
  exact h
theorem go1 {f : Nat} {o : OP} (h : opok f o) (ho : o.1 ≤ 6) : (∀ q ∈ [o], opok f q) ∧ ∀ n, n ≤ 14 → hrun [o] n = some (n + 1) := ⟨all1 h, fun _ hn => hrun_1 ho hn⟩
theorem GO_plain {x : TP} {f : Nat} (hf : f < 15) : GO f 14 (pPlain x f) := fun p v h => by
  have hb := fbase hf
  unfold pPlain at h
  split at h
  · obtain ⟨u, h1, h⟩ := pB_inr h
    have m1 : u.2 < 10000 := mm_blt_t (numv h1)
    cases h
    exact go1 (Or.inl ⟨rfl, by show (0 : Int) ≤ (u.2 : Int); omega, by show (u.2 : Int) < 10000; omega⟩) (by show 0 ≤ 6; omega)
  split at h
  · obtain ⟨u, h1, h⟩ := pB_inr h
    have m1 : u.2 < fN f := mm_blt_t (numv h1)
    cases h
    exact go1 (Or.inr (Or.inl ⟨rfl, by show (0 : Int) ≤ (u.2 : Int); omega, by show (u.2 : Int) < fN f; omega⟩)) (by show 1 ≤ 6; omega)
  split at h
  · unfold pTwo at h
    obtain ⟨u, h1, h⟩ := pB_inr h
    obtain ⟨u2, h2, h⟩ := pB_inr h
    obtain ⟨u3, h3, h⟩ := pB_inr h
    have m1 : u.2 < fQ f - 1 := mm_blt_t (numv h1)
    have m3 : u3.2 < fQ f := mm_blt_t (numv h3)
    cases h
    exact go1 (Or.inr (Or.inr (Or.inl ⟨rfl, by show (0 : Int) ≤ (u.2 : Int) ∧ (u.2 : Int) < (fQ f : Int) - 1; omega, by show (0 : Int) ≤ (u3.2 : Int) ∧ (u3.2 : Int) < (fQ f : Int); omega⟩))) (by show 2 ≤ 6; omega)
  split at h
  · obtain ⟨u, h1, h⟩ := pB_inr h
    obtain ⟨u2, h2, h⟩ := pB_inr h
    obtain ⟨u3, h3, h⟩ := pB_inr h
    obtain ⟨u4, h4, h⟩ := pB_inr h
    obtain ⟨u5, h5, h⟩ := pB_inr h
    have m1 : u.2 < fQ f - 1 := mm_blt_t (numv h1)
    have m3 : u3.2 < fQ f - 1 := mm_blt_t (numv h3)
    have m5 : u5.2 < fQ f := mm_blt_t (numv h5)
    cases h
    exact go1 (Or.inr (Or.inr (Or.inr (Or.inl ⟨rfl, by show (0 : Int) ≤ (u.2 : Int) ∧ (u.2 : Int) < (fQ f : Int) - 1; omega, by show (0 : Int) ≤ (u3.2 : Int) ∧ (u3.2 : Int) < (fQ f : Int) - 1; omega, by show (0 : Int) ≤ (u5.2 : Int) ∧ (u5.2 : Int) < (fQ f : Int); omega⟩)))) (by show 3 ≤ 6; omega)
  split at h
  · unfold pTwo at h
    obtain ⟨u, h1, h⟩ := pB_inr h
    obtain ⟨u2, h2, h⟩ := pB_inr h
    obtain ⟨u3, h3, h⟩ := pB_inr h
    have m1 : u.2 < fQ f := mm_blt_t (numv h1)
    have m3 : u3.2 < fQ f := mm_blt_t (numv h3)
    cases h
    exact go1 (Or.inr (Or.inr (Or.inr (Or.inr (Or.inl ⟨rfl, by show (0 : Int) ≤ (u.2 : Int) ∧ (u.2 : Int) < (fQ f : Int); omega, by show (0 : Int) ≤ (u3.2 : Int) ∧ (u3.2 : Int) < (fQ f : Int); omega⟩))))) (by show 4 ≤ 6; omega)
  split at h
  · unfold pTwo at h
    obtain ⟨u, h1, h⟩ := pB_inr h
    obtain ⟨u2, h2, h⟩ := pB_inr h
    obtain ⟨u3, h3, h⟩ := pB_inr h
    have m1 : okK f (u.2 : Int) 0 := of_decide_eq_true (numv h1)
    have m3' : cLt u.2 u3.2 = true := numv h3
    have m3 : u3.2 < u.2 := mm_blt_t m3'
    cases h
    exact go1 (Or.inr (Or.inr (Or.inr (Or.inr (Or.inr (Or.inl ⟨rfl, m1.1, m1.2.1, by show (0 : Int) ≤ (u3.2 : Int); omega, by show (u3.2 : Int) < (u.2 : Int); omega⟩)))))) (by show 5 ≤ 6; omega)
  split at h
  · obtain ⟨u, h1, h⟩ := pB_inr h
    have m1 : u.2 < 8 := mm_blt_t (numv h1)
    cases h
    exact go1 (Or.inr (Or.inr (Or.inr (Or.inr (Or.inr (Or.inr (Or.inl ⟨rfl, by show (0 : Int) ≤ (u.2 : Int) ∧ (u.2 : Int) < 8; omega⟩))))))) (by show 6 ≤ 6; omega)
  · cases h
theorem go_app {f c : Nat} {x : List OP} {o : OP} (h : (∀ q ∈ x, opok f q) ∧ ∀ n, n ≤ c → hrun x n = some (n + 1)) (hc : c ≤ 14) (ho : opok f o) (ho2 : o.1 = 7 ∨ o.1 = 8 ∨ o.1 = 12) : (∀ q ∈ x ++ [o], opok f q) ∧ ∀ n, n ≤ c → hrun (x ++ [o]) n = some (n + 1) := by
  refine ⟨fun q hq => ?_, fun n hn => ?_⟩
  · rcases List.mem_append.mp hq with z | z
    · exact h.1 q z
    · exact all1 ho q z
  · rw [hrun_to (h.2 n hn)]
    unfold hrun hst
    rw [if_neg (by omega), if_pos ho2, if_pos (by omega)]
    rfl
theorem GO_fac {x : TP} {f c : Nat} {A : Nat → PR (List OP)} (hc : c ≤ 14) (hA : GO f c A) : GO f c (pFac x A) := fun p v h => by
  unfold pFac at h
  obtain ⟨u, h1, h⟩ := pB_inr h
  have g := hA p u h1
  split at h
  · obtain ⟨u2, h2, h⟩ := pB_inr h
    have m2 : u2.2 < 21 := mm_blt_t (numv h2)
    cases h
    exact go_app g hc (Or.inr (Or.inr (Or.inr (Or.inr (Or.inr (Or.inr (Or.inr (Or.inr (Or.inr (Or.inr (Or.inr (Or.inr ⟨rfl, by show (0 : Int) ≤ (u2.2 : Int); omega, by show (u2.2 : Int) ≤ 20; omega⟩)))))))))))) (Or.inr (Or.inr rfl))
  · cases h
    exact g
theorem go_join {f c : Nat} {x y : List OP} {o : OP} (h : (∀ q ∈ x, opok f q) ∧ ∀ n, n ≤ c → hrun x n = some (n + 1)) (h2 : (∀ q ∈ y, opok f q) ∧ ∀ n, n ≤ c + 1 → hrun y n = some (n + 1)) (ho : o.1 = 9 ∨ o.1 = 10 ∨ o.1 = 11) : (∀ q ∈ x ++ (y ++ [o]), opok f q) ∧ ∀ n, n ≤ c → hrun (x ++ (y ++ [o])) n = some (n + 1) := by
  refine ⟨fun q hq => ?_, fun n hn => ?_⟩
  · rcases List.mem_append.mp hq with z | z
    · exact h.1 q z
    · rcases List.mem_append.mp z with z | z
      · exact h2.1 q z
      · rw [List.mem_singleton] at z
        rw [z]
        exact Or.inr (Or.inr (Or.inr (Or.inr (Or.inr (Or.inr (Or.inr (Or.inr (Or.inr (ho.elim Or.inl (fun y => Or.inr (y.elim Or.inl (fun y => Or.inr (Or.inl y))))))))))))) 
  · rw [hrun_to (h.2 n hn), hrun_to (h2.2 (n + 1) (by omega))]
    unfold hrun hst
    rw [if_neg (by omega), if_neg (by omega), if_pos (by omega)]
    rfl
theorem GO_tmL {x : TP} {f c : Nat} {A : Nat → PR (List OP)} (hc : c + 1 ≤ 14) (hA : GO f (c + 1) A) : ∀ (n p : Nat) (ops : List OP) (v : Nat × List OP), ((∀ q ∈ ops, opok f q) ∧ ∀ n, n ≤ c → hrun ops n = some (n + 1)) → pTmL x A n p ops = .inr v → (∀ q ∈ v.2, opok f q) ∧ ∀ n, n ≤ c → hrun v.2 n = some (n + 1)
  | 0, p, ops, v, ho, h => by cases h; exact ho
  | n + 1, p, ops, v, ho, h => by
    unfold pTmL at h
    split at h
    · obtain ⟨u, h1, h⟩ := pB_inr h
      exact GO_tmL hc hA n u.1 _ v (go_join ho (GO_fac hc hA _ u h1) (Or.inr (Or.inr rfl))) h
    · cases h; exact ho
theorem GO_dn {f c c' : Nat} {F : Nat → PR (List OP)} (hc : c' ≤ c) (h : GO f c F) : GO f c' F := fun p v hv => ⟨(h p v hv).1, fun n hn => (h p v hv).2 n (by omega)⟩
theorem GO_tm {x : TP} {f c : Nat} {A : Nat → PR (List OP)} (hc : c + 1 ≤ 14) (hA : GO f (c + 1) A) : GO f c (pTm x A) := fun p v h => by
  unfold pTm at h
  obtain ⟨u, h1, h⟩ := pB_inr h
  exact GO_tmL hc hA _ _ _ v (GO_dn (by omega) (GO_fac hc hA) p u h1) h
theorem GO_rwL {x : TP} {f c : Nat} {A : Nat → PR (List OP)} (hc : c + 2 ≤ 14) (hA : GO f (c + 2) A) : ∀ (n p : Nat) (ops : List OP) (v : Nat × List OP), ((∀ q ∈ ops, opok f q) ∧ ∀ n, n ≤ c → hrun ops n = some (n + 1)) → pRwL x A n p ops = .inr v → (∀ q ∈ v.2, opok f q) ∧ ∀ n, n ≤ c → hrun v.2 n = some (n + 1)
  | 0, p, ops, v, ho, h => by cases h; exact ho
  | n + 1, p, ops, v, ho, h => by
    unfold pRwL at h
    split at h
    · obtain ⟨u, h1, h⟩ := pB_inr h
      refine GO_rwL hc hA n u.1 _ v (go_join ho (GO_tm hc hA _ u h1) ?_) h
      show (if tTk x p = 43 then 9 else 10 : Nat) = 9 ∨ (if tTk x p = 43 then 9 else 10 : Nat) = 10 ∨ (if tTk x p = 43 then 9 else 10 : Nat) = 11
      split <;> simp
    · cases h; exact ho
theorem GO_rw {x : TP} {f c : Nat} {A : Nat → PR (List OP)} (hc : c + 2 ≤ 14) (hA : GO f (c + 2) A) : GO f c (pRw x A) := fun p v h => by
  unfold pRw at h
  obtain ⟨u, h1, h⟩ := pB_inr h
  exact GO_rwL hc hA _ _ _ v (GO_dn (by omega) (GO_tm hc hA) p u h1) h
theorem conj_c : fevery (fun f => decide (okM f ((fN f : Int) - 1))) = true := by decide +kernel
theorem GO_opn {x : TP} {f c : Nat} (hf : f < 15) {A : Nat → PR (List OP)} (hc : c + 2 ≤ 14) (hA : GO f (c + 2) A) : GO f c (pOpn x f A) := fun p v h => by
  have hA2 := GO_dn (c' := c) (by omega) hA
  unfold pOpn at h
  split at h
  · obtain ⟨u, h1, h⟩ := pB_inr h
    obtain ⟨u2, h2, h⟩ := pB_inr h
    have g := GO_rw hc hA _ u h1
    cases h
    exact g
  split at h
  · obtain ⟨u, h1, h⟩ := pB_inr h
    have g := hA2 _ u h1
    cases h
    exact go_app g (by omega) (Or.inr (Or.inr (Or.inr (Or.inr (Or.inr (Or.inr (Or.inr (Or.inl rfl)))))))) (Or.inl rfl)
  split at h
  · obtain ⟨u, h1, h⟩ := pB_inr h
    have g := hA2 _ u h1
    cases h
    exact go_app g (by omega) (Or.inr (Or.inr (Or.inr (Or.inr (Or.inr (Or.inr (Or.inr (Or.inr (Or.inl ⟨rfl, of_decide_eq_true (fevery_at conj_c hf)⟩))))))))) (Or.inr (Or.inl rfl))
  · obtain ⟨u, h1, h⟩ := pB_inr h
    obtain ⟨u2, h2, h⟩ := pB_inr h
    obtain ⟨u3, h3, h⟩ := pB_inr h
    have g := hA2 _ u3 h3
    have m := of_decide_eq_true (numv h1)
    cases h
    exact go_app g (by omega) (Or.inr (Or.inr (Or.inr (Or.inr (Or.inr (Or.inr (Or.inr (Or.inr (Or.inl ⟨rfl, m⟩))))))))) (Or.inr (Or.inl rfl))
theorem GO_at {x : TP} {f : Nat} (hf : f < 15) : ∀ d, d ≤ 6 → GO f (14 - 2 * d) (pAt x f d)
  | 0, _ => fun p v h => by
    unfold pAt at h
    split at h
    · cases h
    · exact GO_plain hf p v h
  | d + 1, hd => fun p v h => by
    unfold pAt at h
    split at h
    · exact GO_opn hf (by omega) (by rw [show 14 - 2 * (d + 1) + 2 = 14 - 2 * d by omega]; exact GO_at hf d (by omega)) p v h
    · exact GO_dn (by omega) (GO_plain hf) p v h
theorem all_ok {x : TP} {f : Nat} {v : Nat × List OP} (hf : f < 15) (h : pAll x f = .inr v) : (∀ o ∈ v.2, opok f o) ∧ hrun v.2 0 = some 1 ∧ v.2.length ≤ v.1 ∧ v.1 ≤ x.2 := by
  unfold pAll at h
  obtain ⟨u, h1, h⟩ := pB_inr h
  have g := GO_rw (c := 0) (by omega) (GO_at (x := x) hf 6 (by omega)) 0 u h1
  have m := MO_rw (MO_at x f 6) 0 u (by omega) h1
  split at h
  · cases h
    exact ⟨g.1, g.2 0 (by omega), by show u.2.length ≤ u.1; omega, m.2.2⟩
  · cases h
/-- values on the stack aren't great -/
def allS (f : Nat) (L : List VL) : Prop := ∀ V ∈ L, small f V
theorem allS_cons {f : Nat} {V : VL} {L : List VL} (h : small f V) (hL : allS f L) : allS f (V :: L) := fun U hU => by
  rcases List.mem_cons.mp hU with rfl | z
  · exact h
  · exact hL U z
theorem allS_tl {f : Nat} {V : VL} {L : List VL} (h : allS f (V :: L)) : allS f L := fun U hU => h U (List.mem_cons_of_mem _ hU)
theorem tst_S {f : Nat} {V : VL} {L L' : List VL} (hL : allS f L) (h : tst f V L = some L') : allS f L' ∧ L'.length = L.length + 1 := by
  unfold tst at h
  split at h
  · cases h
    exact ⟨allS_cons ‹_› hL, rfl⟩
  · cases h
theorem pwV_S {f : Nat} {V : VL} : ∀ (n : Nat) (P : VL) (L L' : List VL), small f P → allS f L → pwV f V n P L = some L' → allS f L' ∧ L'.length = L.length + 1
  | 0, P, L, L', hP, hL, h => by cases h; exact ⟨allS_cons hP hL, rfl⟩
  | n + 1, P, L, L', hP, hL, h => by
    unfold pwV at h
    split at h
    · exact pwV_S n _ L L' ‹_› hL h
    · cases h
theorem pl_small {a : AS} (h : AO a) {i : Nat} (hi : i < 8) : small (aF a) (vL (aP a i)) := fun t ht => by
  have := h.2.1 i t hi ht
  show -1000000 ≤ (Int64.ofInt (aP a i t)).toInt ∧ (Int64.ofInt (aP a i t)).toInt ≤ 1000000
  rw [l_of (rng_of (by omega) (by omega))]
  exact this
theorem hst_6 {c : Nat} {x y z : Int} {n : Nat} (hc : c ≤ 6) (hn : n ≤ 14) : hst (c, x, y, z) n = some (n + 1) := by
  unfold hst
  rw [if_pos hc, if_pos hn]
/-- a step on values that aren't great leaves such; how many they are -/
theorem evO_S {a : AS} (hA : AO a) {o : OP} {L L' : List VL} (ho : opok (aF a) o) (hL : allS (aF a) L) (h : evO a o L = some L') : allS (aF a) L' ∧ ∀ n, hst o L.length = some n → L'.length = n := by
  obtain ⟨c, x, y, z⟩ := o
  have e6 : ∀ {n : Nat}, c ≤ 6 → hst (c, x, y, z) L.length = some n → n = L.length + 1 := fun {n} h1 h2 => by
    unfold hst at h2
    rw [if_pos h1] at h2
    split at h2
    · cases h2; rfl
    · cases h2
  have e7 : ∀ {n : Nat}, ¬ c ≤ 6 → (c = 7 ∨ c = 8 ∨ c = 12) → hst (c, x, y, z) L.length = some n → n = L.length := fun {n} h0 h1 h2 => by
    unfold hst at h2
    rw [if_neg h0, if_pos h1] at h2
    split at h2
    · cases h2; rfl
    · cases h2
  have e9 : ∀ {n : Nat}, ¬ c ≤ 6 → ¬ (c = 7 ∨ c = 8 ∨ c = 12) → hst (c, x, y, z) L.length = some n → n = L.length - 1 := fun {n} h0 h1 h2 => by
    unfold hst at h2
    rw [if_neg h0, if_neg h1] at h2
    split at h2
    · cases h2; rfl
    · cases h2
  have f6 : ∀ {V : VL}, c ≤ 6 → tst (aF a) V L = some L' → allS (aF a) L' ∧ ∀ n, hst (c, x, y, z) L.length = some n → L'.length = n := fun hc h => by
    have := tst_S hL h
    exact ⟨this.1, fun n hn => this.2.trans (e6 hc hn).symm⟩
  have ne : L = [] → c ≤ 6 ∨ evO a (c, x, y, z) L = none := fun q => by
    subst q
    unfold evO
    simp only
    by_cases q : c ≤ 6
    · exact Or.inl q
    · right
      rw [if_neg (by omega), if_neg (by omega), if_neg (by omega), if_neg (by omega), if_neg (by omega), if_neg (by omega), if_neg (by omega)]
  rcases ho with ⟨q, r⟩ | ⟨q, r⟩ | ⟨q, r⟩ | ⟨q, r⟩ | ⟨q, r⟩ | ⟨q, r⟩ | ⟨q, r⟩ | q | ⟨q, r⟩ | q | q | q | ⟨q, r⟩
  · have q : c = 0 := q
    subst q
    exact f6 (by omega) h
  · have q : c = 1 := q
    subst q
    exact f6 (by omega) h
  · have q : c = 2 := q
    subst q
    exact f6 (by omega) h
  · have q : c = 3 := q
    subst q
    exact f6 (by omega) h
  · have q : c = 4 := q
    subst q
    exact f6 (by omega) h
  · have q : c = 5 := q
    subst q
    exact f6 (by omega) h
  · have q : c = 6 := q
    subst q
    have h : some (vL (aP a x.toNat) :: L) = some L' := h
    cases h
    have r : 0 ≤ x ∧ x < 8 := r
    exact ⟨allS_cons (pl_small hA (by omega)) hL, fun n hn => (e6 (by omega) hn).symm⟩
  all_goals
    cases L with
    | nil =>
      rcases ne rfl with z | z
      · exfalso
        simp only at q
        omega
      · rw [z] at h; cases h
    | cons V L1 => ?_
  · have q : c = 7 := q
    subst q
    have h : tst (aF a) (fun t => 0 + (-1) * V t) L1 = some L' := h
    have := tst_S (allS_tl hL) h
    exact ⟨this.1, fun n hn => this.2.trans (e7 (by omega) (by omega) hn).symm⟩
  · have q : c = 8 := q
    subst q
    have h : tst (aF a) (mvV (aF a) V x.toNat) L1 = some L' := h
    have := tst_S (allS_tl hL) h
    exact ⟨this.1, fun n hn => this.2.trans (e7 (by omega) (by omega) hn).symm⟩
  · have q : c = 9 := q
    subst q
    cases L1 with
    | nil => cases h
    | cons U L2 =>
      have h : tst (aF a) (fun t => U t + 1 * V t) L2 = some L' := h
      have := tst_S (allS_tl (allS_tl hL)) h
      exact ⟨this.1, fun n hn => this.2.trans (e9 (by omega) (by omega) hn).symm⟩
  · have q : c = 10 := q
    subst q
    cases L1 with
    | nil => cases h
    | cons U L2 =>
      have h : tst (aF a) (fun t => U t + (-1) * V t) L2 = some L' := h
      have := tst_S (allS_tl (allS_tl hL)) h
      exact ⟨this.1, fun n hn => this.2.trans (e9 (by omega) (by omega) hn).symm⟩
  · have q : c = 11 := q
    subst q
    cases L1 with
    | nil => cases h
    | cons U L2 =>
      have h : tst (aF a) (mulV (aF a) U V) L2 = some L' := h
      have := tst_S (allS_tl (allS_tl hL)) h
      exact ⟨this.1, fun n hn => this.2.trans (e9 (by omega) (by omega) hn).symm⟩
  · have q : c = 12 := q
    subst q
    have h : (if x = 0 then tst (aF a) (fun t => if t = 0 then 1 else 0) L1 else pwV (aF a) V (x.toNat - 1) V L1) = some L' := h
    split at h
    · have := tst_S (allS_tl hL) h
      exact ⟨this.1, fun n hn => this.2.trans (e7 (by omega) (by omega) hn).symm⟩
    · have := pwV_S _ _ _ _ (hL V List.mem_cons_self) (allS_tl hL) h
      exact ⟨this.1, fun n hn => this.2.trans (e7 (by omega) (by omega) hn).symm⟩
theorem evs_S {a : AS} (hA : AO a) : ∀ (x : List OP) (L L' : List VL), (∀ o ∈ x, opok (aF a) o) → allS (aF a) L → evs a x (some L) = some L' → allS (aF a) L'
  | [], L, L', _, hL, h => by cases h; exact hL
  | o :: r, L, L', ho, hL, h => by
    have h : evs a r (evO a o L) = some L' := h
    cases hz : evO a o L with
    | none => rw [hz, evs_none] at h; cases h
    | some L1 =>
      rw [hz] at h
      exact evs_S hA r L1 L' (fun q hq => ho q (List.mem_cons_of_mem _ hq)) (evO_S hA (ho o List.mem_cons_self) hL hz).1 h
