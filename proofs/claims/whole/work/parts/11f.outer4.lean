/-! the component: what is asked of a place -/
def CPL (M : List ME) (a : AS) (p : Nat × Int64) (N : Option MV → HP → Prop) (X : String → HP → Prop) : Prop := (p.1 = 0 → ∀ c : CS, CR a c → N (some (mL p.2)) (hC (none, M) c)) ∧ (p.1 = 1 → ∀ c : CS, CR a c → X xN (hC (none, M) c))
def T_X9_of : Tr := fun av h N X => ∃ (M : List ME) (c : CS) (a : AS) (x y : Int), av = [mR 0, mI x, mI y] ∧ h = hC (none, M) c ∧ CR a c ∧ CPL M a (xOf a x y) N X
theorem CR_rV {a : AS} {c : CS} (h : CR a c) {i : Nat} (hi : i < 8) : ∀ t, t < fD (aF a) → rowV c i t = vL (aP a i) t := CPl_row h.2.2.2.1 hi
theorem mvV_eq {f : Nat} {V V' : Nat → Int64} (h : ∀ t, t < fD f → V t = V' t) : mvV f V = mvV f V' := funext fun m => funext fun t => mvV_congr h m t
theorem sameV_eq {f : Nat} {W V V' : Nat → Int64} (h : ∀ t, t < fD f → V t = V' t) : sameV f W V ↔ sameV f W V' := ⟨fun z t ht => (z t ht).trans (h t ht), fun z t ht => (z t ht).trans (h t ht).symm⟩
theorem stB_eq {f : Nat} {V V' : Nat → Int64} (h : ∀ t, t < fD f → V t = V' t) : stB f V = stB f V' := funext fun m => by
  unfold stB
  rw [mvV_eq h]
  exact decide_eq_decide.mpr (and_congr_right fun _ => sameV_eq h)
theorem amV_eq {f : Nat} {V V' : Nat → Int64} (h : ∀ t, t < fD f → V t = V' t) : amV f V = amV f V' := funext fun t => by
  unfold amV
  rw [mvV_eq h]
theorem lmX_eq {f : Nat} {V V' : Nat → Int64} (h : ∀ t, t < fD f → V t = V' t) : lmX f V = lmX f V' := by
  unfold lmX
  rw [stB_eq h]
abbrev e_X9_of : NE := (ftX9, [(200, (2, 1, 6, true, (0, 9), T_X9_needPlace)), (141, (2, 0, 0, false, (0, 4), T_X4_terms)), (205, (2, 0, 0, false, (0, 4), T_X4_isWhole)), (209, (3, 0, 0, false, (0, 4), T_X4_staysWhenMoved)), (213, (2, 0, 0, false, (0, 4), T_X4_unlikeMovings)), (216, (2, 0, 0, false, (0, 4), T_X4_allMovings)), (220, (2, 0, 0, false, (0, 4), T_X4_firstStay))], ltX9, [], [], false, 3, (2, 12), [], [], [(134, xN)], true)
theorem s_X9_of : mm_Spec e_X9_of kX9_of 4 T_X9_of := by
  rintro N X K av h hK ⟨M, c, a, x, y, rfl, rfl, hc, h2⟩
  have hG := hc.2.1.2
  have hb := fbase hc.1.1
  refine ⟨rfl, hK [] _ _ _ _ _ _ ?_⟩
  refine ⟨M, c, x, rfl, rfl, fun q => ?_, fun q => ?_⟩
  · obtain ⟨n, rfl⟩ := Int.eq_ofNat_of_zero_le q.1
    have hn : n < 8 := by omega
    refine And.intro (by omega) ?_
    have e0 : (0 : Nat) + (n : Int).toNat = n := by omega
    have hv : ∀ (v : Int64) (c' : CS), CR a c' → xOf a n y = (0, v) → N (some (mL v)) (hC (none, M) c') := fun v c' hc' e => by
      rw [e] at h2
      exact h2.1 rfl c' hc'
    refine ⟨fun q => ?_, fun q2 => ?_, fun q2 => ?_, fun q2 => ?_, fun q2 => ?_, fun q2 => ?_, fun q2 => ?_, trivial⟩
    · have e : xOf a n y = (1, 0) := if_neg (fun z => by omega)
      rw [e] at h2
      exact h2.2 rfl c hc
    · subst q2
      refine ⟨(none, M), c, aF a, 0 + n, rfl, rfl, hG, by omega, by rw [Nat.zero_add]; exact CR_row hc hn, ?_⟩
      refine hv _ c hc ?_
      rw [Nat.zero_add, nzc_congr (fD (aF a)) (CR_rV hc hn)]
      exact if_pos ⟨q, by omega, by omega⟩
    · subst q2
      refine ⟨(none, M), c, aF a, 0 + n, rfl, rfl, hG, by omega, by rw [Nat.zero_add]; exact CR_row hc hn, ?_⟩
      have e1 : (∀ t, t < fD (aF a) → 1 ≤ t → rowV c n t = 0) ↔ ∀ t, t < fD (aF a) → 1 ≤ t → aP a n t = 0 := by
        refine ⟨fun z t ht h1 => ?_, fun z t ht h1 => ?_⟩
        · have := z t ht h1
          rw [CR_rV hc hn t ht] at this
          exact vL_inj (hc.1.2.1 n t hn ht) (by omega) this
        · rw [CR_rV hc hn t ht]
          show Int64.ofInt (aP a n t) = 0
          rw [z t ht h1]
          rfl
      have ex : xOf a n 1 = (0, if ∀ t, t < fD (aF a) → 1 ≤ t → aP a n t = 0 then 1 else 0) := if_pos ⟨q, by omega, by omega⟩
      refine And.intro (fun z => ?_) (fun z => ?_)
      · rw [Nat.zero_add] at z
        refine hv _ c hc (ex.trans ?_)
        rw [if_neg (fun y => bi_c0 z (e1.mpr y))]
        rfl
      · rw [Nat.zero_add] at z
        refine hv _ c hc (ex.trans ?_)
        rw [if_pos (e1.mp (bi_c1 z))]
        rfl
    · subst q2
      have ex : xOf a n 2 = (0, if sameV (aF a) (mvV (aF a) (vL (aP a n)) (fN (aF a) - 1)) (vL (aP a n)) then 1 else 0) := if_pos ⟨q, by omega, by omega⟩
      conv => whnf
      rw [hG.2.1]
      refine And.intro (rng_of (by omega) (by omega)) ?_
      have e3 : ((fN (aF a) : Nat) : Int) - 1 = ((fN (aF a) - 1 : Nat) : Int) := by omega
      rw [e3]
      refine ⟨(none, M), c, aF a, 0 + n, fN (aF a) - 1, rfl, rfl, hG, by omega, by omega, fun G => ?_⟩
      have e1 : sameV (aF a) (mvV (aF a) (rowV c n) (fN (aF a) - 1)) (rowV c n) ↔ sameV (aF a) (mvV (aF a) (vL (aP a n)) (fN (aF a) - 1)) (vL (aP a n)) := by
        rw [mvV_eq (CR_rV hc hn)]
        exact sameV_eq (CR_rV hc hn)
      refine And.intro (fun z => ?_) (fun z => ?_)
      · rw [Nat.zero_add] at z
        refine hv _ _ (CR_g hc G) (ex.trans ?_)
        rw [if_neg (fun y => bi_c0 z (e1.mpr y))]
        rfl
      · rw [Nat.zero_add] at z
        refine hv _ _ (CR_g hc G) (ex.trans ?_)
        rw [if_pos (e1.mp (bi_c1 z))]
        rfl
    · subst q2
      refine ⟨(none, M), c, aF a, 0 + n, rfl, rfl, hG, by omega, fun G => ?_⟩
      refine hv _ _ (CR_g hc G) ?_
      rw [Nat.zero_add, stB_eq (CR_rV hc hn)]
      exact if_pos ⟨q, by omega, by omega⟩
    · subst q2
      refine ⟨(none, M), c, aF a, 0 + n, rfl, rfl, hG, by omega, fun G => ?_⟩
      refine hv _ _ (CR_g hc G) ?_
      rw [Nat.zero_add, amV_eq (CR_rV hc hn)]
      exact if_pos ⟨q, by omega, by omega⟩
    · subst q2
      refine ⟨(none, M), c, aF a, 0 + n, rfl, rfl, hG, by omega, fun G => ?_⟩
      refine hv _ _ (CR_g hc G) ?_
      rw [Nat.zero_add, lmX_eq (CR_rV hc hn)]
      exact if_pos ⟨q, by omega, by omega⟩
  · have e : xOf a x y = (1, 0) := if_neg (fun z => q z.1)
    rw [e] at h2
    exact h2.2 rfl c hc
theorem m_X9_of (l : Launch) (hl : l.stackTraces = false) : mm_MetX l yX9_of cX9_of 4 (some .long) 7 2 12 T_X9_of := mm_metX (E := e_X9_of) (cd := kX9_of) s_X9_of (by decide) kX9_of_ok (by decide +kernel) (by decide +kernel) (Or.inr (Or.inr (Or.inr (Or.inl ⟨rfl, rfl⟩)))) rfl hl (by decide) (by decide +kernel) (mm_eokt (mm_eok_X9 _)) (mm_cz_cons (Or.inr (mm_cxv wi_X9_needPlace (tb4 (i := 166) rfl rfl) (m_X9_needPlace l hl) (by decide) (by decide) rfl)) (mm_cz_cons (Or.inl (mm_CQ_of (mm_cbv wi_X4_terms (tb3 (i := 83) rfl rfl) (m_X4_terms l) (by decide) (by decide) rfl))) (mm_cz_cons (Or.inl (mm_CQ_of (mm_cbv wi_X4_isWhole (tb4 (i := 179) rfl rfl) (m_X4_isWhole l) (by decide) (by decide) rfl))) (mm_cz_cons (Or.inl (mm_CQ_of (mm_cbv wi_X4_staysWhenMoved (tb4 (i := 184) rfl rfl) (m_X4_staysWhenMoved l) (by decide) (by decide) rfl))) (mm_cz_cons (Or.inl (mm_CQ_of (mm_cbv wi_X4_unlikeMovings (tb4 (i := 189) rfl rfl) (m_X4_unlikeMovings l) (by decide) (by decide) rfl))) (mm_cz_cons (Or.inl (mm_CQ_of (mm_cbv wi_X4_allMovings (tb4 (i := 194) rfl rfl) (m_X4_allMovings l) (by decide) (by decide) rfl))) (mm_cz_cons (Or.inl (mm_CQ_of (mm_cbv wi_X4_firstStay (tb4 (i := 198) rfl rfl) (m_X4_firstStay l) (by decide) (by decide) rfl))) (mm_cz_nil))))))))
