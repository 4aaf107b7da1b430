abbrev RS : Type := (Nat → Int) × (Nat → Int → Int) × (Nat → Int → Int64)
def fu {α : Type} (f : Nat → α) (k : Nat) (v : α) : Nat → α := fun i => match Nat.beq i k with
  | true => v
  | false => f i
def sI (s : RS) (k : Nat) (v : Int) : RS := (fu s.1 k v, s.2)
def sA (s : RS) (k : Nat) (v : Int → Int) : RS := (s.1, fu s.2.1 k v, s.2.2)
def sL (s : RS) (k : Nat) (v : Int → Int64) : RS := (s.1, s.2.1, fu s.2.2 k v)
def RO (s : RS) : List MV := [mR 1001, mI (s.1 1), mI (s.1 2), mI (s.1 3), mI (s.1 4), mI (s.1 5), mI (s.1 6), mR 1002, mR 1003, mR 1004, mR 1005, mR 1006, mR 1007, mR 1008, mI (s.1 14), mI (s.1 15), mR 1009, mR 1010, mR 1011, mR 1012, mR 1013, mR 1014, mR 1015, mI (s.1 23), mR 1016, mR 1017, mR 1018, mR 1019, mI (s.1 28), mI (s.1 29), mI (s.1 30), mI (s.1 31), mI (s.1 32), mI (s.1 33), mI (s.1 34), mI (s.1 35), mI (s.1 36), mI (s.1 37), mI (s.1 38), mI (s.1 39), mI (s.1 40), mR 1020, mR 1021, mR 1022, mR 1023, mR 1024, mR 1025, mI (s.1 47), mI (s.1 48), mR 1026, mR 1027, mR 1028, mI (s.1 52)]
def RH (s : RS) (tl : List ME) : List ME := eO 10 (RO s) :: eI 0 9 (s.2.1 0) :: eI 0 729 (s.2.1 7) :: eI 0 729 (s.2.1 8) :: eI 0 27 (s.2.1 9) :: eI 0 27 (s.2.1 10) :: eI 0 27 (s.2.1 11) :: eI 0 27 (s.2.1 12) :: eI 0 16 (s.2.1 13) :: eL 512 (s.2.2 16) :: eL 1024 (s.2.2 17) :: eL 1024 (s.2.2 18) :: eL 512 (s.2.2 19) :: eL 32768 (s.2.2 20) :: eI 0 64 (s.2.1 21) :: eI 0 64 (s.2.1 22) :: eL 8960 (s.2.2 24) :: eL 512 (s.2.2 25) :: eI 0 27 (s.2.1 26) :: eI 0 200 (s.2.1 27) :: eI 0 27 (s.2.1 41) :: eI 0 27 (s.2.1 42) :: eI 0 27 (s.2.1 43) :: eI 0 4096 (s.2.1 44) :: eI 0 4096 (s.2.1 45) :: eI 0 4096 (s.2.1 46) :: eI 0 8 (s.2.1 49) :: eI 0 8 (s.2.1 50) :: eI 0 8192 (s.2.1 51) :: tl
abbrev FW : Type := Option Nat × List ME × List ME × Nat × (Nat → Int → Int)
def hR (w : FW) (s : RS) : HP := (w.1, w.2.1, RH s w.2.2.1, w.2.2.2.1, w.2.2.2.2)
def T_sumOf : Tr := fun av h N _ => ∃ (w : FW) (s : RS) (x y : Int), av = [mR 1000, mI x, mI y] ∧ h = hR w s ∧ (0 ≤ x ∧ x < 27 ∧ 0 ≤ y ∧ y < 27) ∧ N (some (mI (s.2.1 7 (27 * x + y)))) h
def T_productOf : Tr := fun av h N _ => ∃ (w : FW) (s : RS) (x y : Int), av = [mR 1000, mI x, mI y] ∧ h = hR w s ∧ (0 ≤ x ∧ x < 27 ∧ 0 ≤ y ∧ y < 27) ∧ N (some (mI (s.2.1 8 (27 * x + y)))) h
abbrev EX10 (ct : List (Nat × CE)) (rk : Nat) : NE := (ftX10, ct, ltX10, [], [], false, rk, (0, 0), [], [], [], false)
theorem sp_sumOf : mm_Spec (EX10 [] 1) kX10_sumOf 3 T_sumOf := by
  rintro N X K av h hK ⟨w, s, x, y, rfl, rfl, h1, h2⟩
  refine hK [] _ _ _ _ _ _ ?_
  refine And.intro (by unfold mm_rng; omega) ?_
  refine And.intro (by unfold mm_rng; omega) ?_
  refine And.intro (by omega) ?_
  exact h2
theorem sp_productOf : mm_Spec (EX10 [] 1) kX10_productOf 3 T_productOf := by
  rintro N X K av h hK ⟨w, s, x, y, rfl, rfl, h1, h2⟩
  refine hK [] _ _ _ _ _ _ ?_
  exact And.intro (by unfold mm_rng; omega) (And.intro (by unfold mm_rng; omega) (And.intro (by omega) h2))
def T_forget : Tr := fun av h N _ => ∃ (w : FW) (s : RS), av = [mR 1000] ∧ h = hR w s ∧ ∀ f : Int → Int64, (∀ i : Int, f i = if 0 ≤ i ∧ i < 512 then 0 else s.2.2 25 i) → N none (hR w (sL s 25 f))
theorem sp_forget : mm_Spec (EX10 [] 0) kX10_forget 2 T_forget := by
  rintro N X K av h hK ⟨w, s, rfl, rfl, h2⟩
  have loop : ∀ (n : Nat) (i : Int) (f : Int → Int64), 0 ≤ i → i ≤ 512 → 512 - i ≤ n → (∀ j : Int, f j = if 0 ≤ j ∧ j < i then 0 else s.2.2 25 j) → K 2 [some (mR 1000), some (mI i)] [] (hR w (sL s 25 f)) 0 0 := by
    intro n
    induction n with
    | zero =>
      intro i f h0 h1 h3 hf
      refine hK [2] _ _ _ _ _ _ ?_
      refine And.intro (fun _ => ?_) (fun q => absurd q (by omega))
      have e : i = 512 := by omega
      subst e
      exact h2 f hf
    | succ n ih =>
      intro i f h0 h1 h3 hf
      refine hK [2] _ _ _ _ _ _ ?_
      refine And.intro (fun q => ?_) (fun q => ?_)
      · have e : i = 512 := by omega
        subst e
        exact h2 f hf
      · refine And.intro (by omega) ?_
        refine And.intro (by unfold mm_rng; omega) ?_
        refine ih (i + 1) (mm_updL f i 0) (by omega) (by omega) (by omega) ?_
        intro j
        unfold mm_updL
        rw [hf]
        split <;> split <;> (try split) <;> first | rfl | omega | skip
  refine hK [2] _ _ _ _ _ _ ?_
  exact loop 512 0 (s.2.2 25) (by omega) (by omega) (by omega) (fun j => by rw [if_neg (by omega)])
