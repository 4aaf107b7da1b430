/-! what is read lies behind where it began; each step has a byte of its own -/
def Mon (x : TP) (F : Nat → PR Nat) : Prop := ∀ (p : Nat) (v : Nat × Nat), p ≤ x.2 → F p = .inr v → p ≤ v.1 ∧ v.1 ≤ x.2
def MonO (x : TP) (c : Nat) (F : Nat → PR (List OP)) : Prop := ∀ (p : Nat) (v : Nat × List OP), p ≤ x.2 → F p = .inr v → p + v.2.length ≤ v.1 + c ∧ p ≤ v.1 ∧ v.1 ≤ x.2
theorem mon_num {x : TP} {c : Nat → Bool} {p : Nat} {v : Nat × Nat} (hp : p ≤ x.2) (h : pNum x c p = .inr v) : p < v.1 ∧ v.1 ≤ x.2 := by
  have ht := t_le (x := x) (p := p) hp
  unfold pNum at h
  split at h
  · rename_i q
    split at h
    · cases h
      have := ht.2.2.2 (by omega)
      exact ⟨by show p < tNx x p; omega, ht.2.2.1⟩
    · cases h
  · cases h
theorem mon_skip {x : TP} {c : Int} {p : Nat} {v : Nat × Nat} (hc : 0 ≤ c) (hp : p ≤ x.2) (h : pSkip x c p = .inr v) : p < v.1 ∧ v.1 ≤ x.2 := by
  have ht := t_le (x := x) (p := p) hp
  unfold pSkip at h
  split at h
  · rename_i q
    cases h
    have := ht.2.2.2 (by omega)
    exact ⟨by show p < tNx x p; omega, ht.2.2.1⟩
  · cases h
theorem pB_inr {α β : Type} {r : PR α} {G : Nat → α → PR β} {v : Nat × β} (h : pB r G = .inr v) : ∃ u : Nat × α, r = .inr u ∧ G u.1 u.2 = .inr v := by
  cases r with
  | inl e => cases h
  | inr u => exact ⟨u, rfl, h⟩
theorem nx_lt {x : TP} {p : Nat} (hp : p ≤ x.2) (h : tTk x p ≠ -1) : p < tNx x p ∧ tNx x p ≤ x.2 := by
  have ht := t_le (x := x) (p := p) hp
  have := ht.2.2.2 h
  exact ⟨by omega, ht.2.2.1⟩
theorem mon_two {x : TP} {w : Nat} {c1 : Nat → Bool} {c2 : Nat → Nat → Bool} {p : Nat} {v : Nat × List OP} (hp : p ≤ x.2) (h : pTwo x w c1 c2 p = .inr v) : p < v.1 ∧ v.1 ≤ x.2 ∧ v.2.length = 1 := by
  unfold pTwo at h
  obtain ⟨u, h1, h⟩ := pB_inr h
  obtain ⟨u2, h2, h⟩ := pB_inr h
  obtain ⟨u3, h3, h⟩ := pB_inr h
  have m1 := mon_num hp h1
  have m2 := mon_skip (by omega) m1.2 h2
  have m3 := mon_num m2.2 h3
  cases h
  exact ⟨by show p < u3.1; omega, m3.2, rfl⟩
theorem mon_plain {x : TP} {f p : Nat} {v : Nat × List OP} (hp : p ≤ x.2) (h : pPlain x f p = .inr v) : p < v.1 ∧ v.1 ≤ x.2 ∧ v.2.length = 1 := by
  unfold pPlain at h
  split at h
  · obtain ⟨u, h1, h⟩ := pB_inr h
    have m1 := mon_num hp h1
    cases h
    exact ⟨m1.1, m1.2, rfl⟩
  split at h
  · rename_i q
    have hn := nx_lt hp (by omega)
    obtain ⟨u, h1, h⟩ := pB_inr h
    have m1 := mon_num hn.2 h1
    cases h
    exact ⟨by show p < u.1; omega, m1.2, rfl⟩
  split at h
  · rename_i q
    have hn := nx_lt hp (by omega)
    have := mon_two hn.2 h
    exact ⟨by omega, this.2⟩
  split at h
  · rename_i q
    have hn := nx_lt hp (by omega)
    obtain ⟨u, h1, h⟩ := pB_inr h
    obtain ⟨u2, h2, h⟩ := pB_inr h
    obtain ⟨u3, h3, h⟩ := pB_inr h
    obtain ⟨u4, h4, h⟩ := pB_inr h
    obtain ⟨u5, h5, h⟩ := pB_inr h
    have m1 := mon_num hn.2 h1
    have m2 := mon_skip (by omega) m1.2 h2
    have m3 := mon_num m2.2 h3
    have m4 := mon_skip (by omega) m3.2 h4
    have m5 := mon_num m4.2 h5
    cases h
    exact ⟨by show p < u5.1; omega, m5.2, rfl⟩
  split at h
  · rename_i q
    have hn := nx_lt hp (by omega)
    have := mon_two hn.2 h
    exact ⟨by omega, this.2⟩
  split at h
  · rename_i q
    have hn := nx_lt hp (by omega)
    have := mon_two hn.2 h
    exact ⟨by omega, this.2⟩
  split at h
  · rename_i q
    have hn := nx_lt hp (by omega)
    obtain ⟨u, h1, h⟩ := pB_inr h
    have m1 := mon_num hn.2 h1
    cases h
    exact ⟨by show p < u.1; omega, m1.2, rfl⟩
  · cases h
/-- steps told by an atom, a factor ..: at least a byte more than there are steps, or as many -/
def MO (x : TP) (F : Nat → PR (List OP)) : Prop := ∀ (p : Nat) (v : Nat × List OP), p ≤ x.2 → F p = .inr v → p + v.2.length ≤ v.1 ∧ p < v.1 ∧ v.1 ≤ x.2
theorem MO_plain (x : TP) (f : Nat) : MO x (pPlain x f) := fun p v hp h => by
  have := mon_plain hp h
  omega
theorem MO_fac {x : TP} {A : Nat → PR (List OP)} (hA : MO x A) : MO x (pFac x A) := fun p v hp h => by
  unfold pFac at h
  obtain ⟨u, h1, h⟩ := pB_inr h
  have m1 := hA p u hp h1
  split at h
  · rename_i q
    obtain ⟨u2, h2, h⟩ := pB_inr h
    have hn := nx_lt m1.2.2 (show tTk x u.1 ≠ -1 by omega)
    have m2 := mon_num hn.2 h2
    cases h
    refine ⟨?_, ?_, m2.2⟩
    · show p + (u.2 ++ [_]).length ≤ u2.1
      simp only [List.length_append, List.length_cons, List.length_nil]
      omega
    · show p < u2.1
      omega
  · cases h
    exact m1
theorem MO_tmL {x : TP} {A : Nat → PR (List OP)} (hA : MO x A) : ∀ (n p : Nat) (ops : List OP) (v : Nat × List OP), p ≤ x.2 → pTmL x A n p ops = .inr v → p + v.2.length ≤ v.1 + ops.length ∧ p ≤ v.1 ∧ v.1 ≤ x.2
  | 0, p, ops, v, hp, h => by cases h; exact ⟨Nat.le_refl _, Nat.le_refl _, hp⟩
  | n + 1, p, ops, v, hp, h => by
    unfold pTmL at h
    split at h
    · rename_i q
      have hn := nx_lt hp (show tTk x p ≠ -1 by omega)
      obtain ⟨u, h1, h⟩ := pB_inr h
      have m1 := MO_fac hA _ u hn.2 h1
      have m2 := MO_tmL hA n u.1 _ v m1.2.2 h
      simp only [List.length_append, List.length_cons, List.length_nil] at m2
      omega
    · cases h; exact ⟨Nat.le_refl _, Nat.le_refl _, hp⟩
theorem MO_tm {x : TP} {A : Nat → PR (List OP)} (hA : MO x A) : MO x (pTm x A) := fun p v hp h => by
  unfold pTm at h
  obtain ⟨u, h1, h⟩ := pB_inr h
  have m1 := MO_fac hA p u hp h1
  have m2 := MO_tmL hA _ _ _ v m1.2.2 h
  omega
theorem MO_rwL {x : TP} {A : Nat → PR (List OP)} (hA : MO x A) : ∀ (n p : Nat) (ops : List OP) (v : Nat × List OP), p ≤ x.2 → pRwL x A n p ops = .inr v → p + v.2.length ≤ v.1 + ops.length ∧ p ≤ v.1 ∧ v.1 ≤ x.2
  | 0, p, ops, v, hp, h => by cases h; exact ⟨Nat.le_refl _, Nat.le_refl _, hp⟩
  | n + 1, p, ops, v, hp, h => by
    unfold pRwL at h
    split at h
    · rename_i q
      have hn := nx_lt hp (show tTk x p ≠ -1 by omega)
      obtain ⟨u, h1, h⟩ := pB_inr h
      have m1 := MO_tm hA _ u hn.2 h1
      have m2 := MO_rwL hA n u.1 _ v m1.2.2 h
      simp only [List.length_append, List.length_cons, List.length_nil] at m2
      omega
    · cases h; exact ⟨Nat.le_refl _, Nat.le_refl _, hp⟩
theorem MO_rw {x : TP} {A : Nat → PR (List OP)} (hA : MO x A) : MO x (pRw x A) := fun p v hp h => by
  unfold pRw at h
  obtain ⟨u, h1, h⟩ := pB_inr h
  have m1 := MO_tm hA p u hp h1
  have m2 := MO_rwL hA _ _ _ v m1.2.2 h
  omega
theorem MO_opn {x : TP} {f : Nat} {A : Nat → PR (List OP)} (hA : MO x A) {p : Nat} {v : Nat × List OP} (hp : p ≤ x.2) (hop : isOp (tTk x p)) (h : pOpn x f A p = .inr v) : p + v.2.length ≤ v.1 ∧ p < v.1 ∧ v.1 ≤ x.2 := by
  have hn := nx_lt hp (show tTk x p ≠ -1 by omega)
  unfold pOpn at h
  split at h
  · obtain ⟨u, h1, h⟩ := pB_inr h
    obtain ⟨u2, h2, h⟩ := pB_inr h
    have m1 := MO_rw hA _ u hn.2 h1
    have m2 := mon_skip (by omega) m1.2.2 h2
    cases h
    refine ⟨?_, ?_, m2.2⟩
    · show p + u.2.length ≤ u2.1
      omega
    · show p < u2.1
      omega
  split at h
  · obtain ⟨u, h1, h⟩ := pB_inr h
    have m1 := hA _ u hn.2 h1
    cases h
    refine ⟨?_, ?_, m1.2.2⟩
    · show p + (u.2 ++ [_]).length ≤ u.1
      simp only [List.length_append, List.length_cons, List.length_nil]
      omega
    · show p < u.1
      omega
  split at h
  · obtain ⟨u, h1, h⟩ := pB_inr h
    have m1 := hA _ u hn.2 h1
    cases h
    refine ⟨?_, ?_, m1.2.2⟩
    · show p + (u.2 ++ [_]).length ≤ u.1
      simp only [List.length_append, List.length_cons, List.length_nil]
      omega
    · show p < u.1
      omega
  · obtain ⟨u, h1, h⟩ := pB_inr h
    obtain ⟨u2, h2, h⟩ := pB_inr h
    obtain ⟨u3, h3, h⟩ := pB_inr h
    have m1 := mon_num hn.2 h1
    have m2 := mon_skip (by omega) m1.2 h2
    have m3 := hA _ u3 m2.2 h3
    cases h
    refine ⟨?_, ?_, m3.2.2⟩
    · show p + (u3.2 ++ [_]).length ≤ u3.1
      simp only [List.length_append, List.length_cons, List.length_nil]
      omega
    · show p < u3.1
      omega
theorem MO_at (x : TP) (f : Nat) : ∀ d, MO x (pAt x f d)
  | 0 => fun p v hp h => by
    unfold pAt at h
    split at h
    · cases h
    · exact MO_plain x f p v hp h
  | d + 1 => fun p v hp h => by
    unfold pAt at h
    split at h
    · rename_i q
      exact MO_opn (MO_at x f d) hp q h
    · exact MO_plain x f p v hp h
/-- a value has come: what isGreat says, whatever comes then -/
theorem comes_st {w : FW} {f a : Nat} {V : VL} {s : RS} {Lf : Nat → Int → Int64} {Q : Option MV → HP → Prop} (ha : 8 ≤ a) (h40 : s.1 40 = 0) (hs : slotS f a V (s.2.2 24) (Lf 24)) (hL : ∀ k, k ≠ 18 → k ≠ 24 → k ≠ 25 → Lf k = s.2.2 k) (h : ∀ s1 : RS, FRq s s1 → FR [40] [] [18, 24, 25] s s1 → s1.1 40 = (if small f V then 0 else 1) → s1.2.2 24 = Lf 24 → Q none (hR w s1)) : T_X10_comes [mR 1000, mI (bi (small f V))] (hR w (s.1, s.2.1, Lf)) Q (fun _ _ => False) := by
  have hF := FRq_g ha hL hs
  have hF2 : FR [40] [] [18, 24, 25] s (s.1, s.2.1, Lf) := ⟨fun _ _ => rfl, fun _ _ => rfl, hF.1.2.2⟩
  refine ⟨w, (s.1, s.2.1, Lf), _, rfl, rfl, fun q => ?_, fun q => ?_⟩
  · exact h _ (FRq_I hF rfl) (FR_I hF2 rfl) (bi_small.1 q) rfl
  · exact h _ hF hF2 (h40.trans (bi_small.2 q)) rfl
theorem evO_pow (a : AS) (m : Nat) (V : VL) (L : List VL) : evO a (12, (m : Int), 0, 0) (V :: L) = pwE (aF a) V m L := by
  show (if (m : Int) = 0 then tst (aF a) (fun t => if t = 0 then 1 else 0) L else pwV (aF a) V ((m : Int).toNat - 1) V L) = _
  unfold pwE
  by_cases q : m = 0
  · rw [if_pos q, if_pos (by omega)]
  · rw [if_neg q, if_neg (by omega)]
    rfl
theorem len1 {f n : Nat} {L : List VL} {s : RS} (h : RE f s (some L) (n + 1)) : ∃ V L1, L = V :: L1 := by
  have := h.2.2.2.2.1
  cases L with
  | nil => simp at this
  | cons V L1 => exact ⟨V, L1, rfl⟩
