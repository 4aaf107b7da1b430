/-! the component: what is asked of a place -/
def CPL (M : List ME) (a : AS) (p : Nat × Int64) (N : Option MV → HP → Prop) (X : String → HP → Prop) : Prop := (p.1 = 0 → ∀ c : CS, CR a c → N (some (mL p.2)) (hC (none, M) c)) ∧ (p.1 = 1 → ∀ c : CS, CR a c → X xN (hC (none, M) c))
def T_X9_of : Tr := fun av h N X => ∃ (M : List ME) (c : CS) (a : AS) (x y : Int), av = [mR 0, mI x, mI y] ∧ h = hC (none, M) c ∧ CR a c ∧ CPL M a (xOf a x y) N X
theorem CR_rV {a : AS} {c : CS} (h : CR a c) {i : Nat} (hi : i < 8) : ∀ t, t < fD (aF a) → rowV c i t = vL (aP a i) t := CPl_row h.2.2.2.1 hi
abbrev e_X9_of : NE := (ftX9, [(200, (2, 1, 6, true, (0, 9), T_X9_needPlace)), (141, (2, 0, 0, false, (0, 4), T_X4_terms)), (205, (2, 0, 0, false, (0, 4), T_X4_isWhole)), (209, (3, 0, 0, false, (0, 4), T_X4_staysWhenMoved)), (213, (2, 0, 0, false, (0, 4), T_X4_unlikeMovings)), (216, (2, 0, 0, false, (0, 4), T_X4_allMovings)), (220, (2, 0, 0, false, (0, 4), T_X4_firstStay))], ltX9, [], [], false, 3, (2, 12), [], [], [(134, xN)], true)
theorem s_X9_of : mm_Spec e_X9_of kX9_of 4 T_X9_of := by
  rintro N X K av h hK ⟨M, c, a, x, y, rfl, rfl, hc, h2⟩
  have hG := hc.2.1.2
  have hb := fbase hc.1.1
  refine ⟨rfl, hK [] _ _ _ _ _ _ ?_⟩
  refine ⟨M, c, x, rfl, rfl, fun q => ?_, fun q => ?_⟩
  · obtain ⟨n, rfl⟩ := Int.eq_ofNat_of_zero_le q.1
    have hn : n < 8 := by omega
    refine And.intro (by omega) ?_
    have e0 : (0 : Nat) + (n : Int).toNat = n := by omega
    have hv : ∀ (v : Int64) (c' : CS), CR a c' → xOf a n y = (0, v) → N (some (mL v)) (hC (none, M) c') := fun v c' hc' e => by
      rw [e] at h2
      exact h2.1 rfl c' hc'
    refine ⟨fun q => ?_, fun q2 => ?_, fun q2 => ?_, fun q2 => ?_, fun q2 => ?_, fun q2 => ?_, fun q2 => ?_, trivial⟩
    · have e : xOf a n y = (1, 0) := if_neg (fun z => by omega)
      rw [e] at h2
      exact h2.2 rfl c hc
    · subst q2
      refine ⟨(none, M), c, aF a, 0 + n, rfl, rfl, hG, by omega, by rw [Nat.zero_add]; exact CR_row hc hn, ?_⟩
      trace_state
      sorry
    · sorry
    · sorry
    · sorry
    · sorry
    · sorry
  · have e : xOf a x y = (1, 0) := if_neg (fun z => q z.1)
    rw [e] at h2
    exact h2.2 rfl c hc
