/-! constructors: the reference -/
def pr9 : Int → Int := mm_upd (mm_upd (mm_upd (mm_upd (mm_upd (mm_upd (mm_upd (mm_upd (mm_upd z0 0 2) 1 3) 2 5) 3 7) 4 11) 5 13) 6 17) 7 19) 8 23
theorem pr9_ok : ∀ j : Fin 9, pr9 (j.val : Int) = mm_primes (j.val : Nat) := by decide +kernel
def T_X10_init : Tr := fun av h N _ => ∃ (L : List ME) (n : Nat) (R : Nat → Int → Int), av = [mR 1000] ∧ h = (some 60, L, [eO 10 D10], n, R) ∧ ∀ s' : RS, RR a0 s' → N none (hR (some 88, L, [], n, R) s')
abbrev e_X10_init : NE := (fiX10, [(100, (3, 0, 0, false, (0, 10), T_X10_begin))], ltX10, [], [3], true, 0, (28, 67835), [], [], [], false)
set_option maxHeartbeats 16000000 in
set_option maxRecDepth 100000 in
theorem s_X10_init : mm_Spec e_X10_init kX10_init 2 T_X10_init := by
  rintro N X K av h hK ⟨L, n, R, rfl, rfl, h2⟩
  refine ⟨rfl, hK [57] _ _ _ _ _ _ ?_⟩
  conv => whnf
  trace_state
  sorry
