/-! rows filled -/
def fillT (w : CW) (c : CS) (n : Nat) (old : Int → Int) (v : Int) (F : (Int → Int) → CS) (N : Option MV → HP → Prop) : Prop := ∀ b : Int → Int, (∀ i : Int, b i = if 0 ≤ i ∧ i < (n : Int) then v else old i) → N none (hC w (F b))
def fillL (w : CW) (c : CS) (n : Nat) (old : Int → Int64) (v : Int64) (F : (Int → Int64) → CS) (N : Option MV → HP → Prop) : Prop := ∀ b : Int → Int64, (∀ i : Int, b i = if 0 ≤ i ∧ i < (n : Int) then v else old i) → N none (hC w (F b))
def T_J7_fill_53178 : Tr := fun av h N _ => ∃ (w : CW) (c : CS) (v : Int), h = hC w c ∧ ((av = [mR 9, mI v] ∧ fillT w c 5 (c.2.1 9) v (fun b => kA c 9 b) N) ∨ (av = [mR 16, mI v] ∧ fillT w c 27 (c.2.1 16) v (fun b => kA c 16 b) N) ∨ (av = [mR 22, mI v] ∧ fillT w c 27 (c.2.1 22) v (fun b => kA c 22 b) N) ∨ (∃ r : Nat, r < 24 ∧ av = [mQ r, mI v] ∧ fillT w c 220 (c.2.2.2.1 r) v (fun b => kR c (mm_updR c.2.2.2.1 r b)) N))
abbrev e_J7_fill_53178 : NE := ([], [], [], [], [], false, 0, (0, 0), [], [], [], true)
theorem fill_step {n : Nat} {old b : Int → Int} {v : Int} {i : Nat} (hb : ∀ j : Int, b j = if 0 ≤ j ∧ j < (i : Int) then v else old j) : ∀ j : Int, mm_upd b (i : Int) v j = if 0 ≤ j ∧ j < ((i + 1 : Nat) : Int) then v else old j := by
  intro j
  unfold mm_upd
  by_cases q : j = (i : Int)
  · rw [if_pos q, if_pos (by omega)]
  · rw [if_neg q, hb j]
    by_cases q2 : 0 ≤ j ∧ j < (i : Int)
    · rw [if_pos q2, if_pos (by omega)]
    · rw [if_neg q2, if_neg (by omega)]
theorem fill_stepL {n : Nat} {old b : Int → Int64} {v : Int64} {i : Nat} (hb : ∀ j : Int, b j = if 0 ≤ j ∧ j < (i : Int) then v else old j) : ∀ j : Int, mm_updL b (i : Int) v j = if 0 ≤ j ∧ j < ((i + 1 : Nat) : Int) then v else old j := by
  intro j
  unfold mm_updL
  by_cases q : j = (i : Int)
  · rw [if_pos q, if_pos (by omega)]
  · rw [if_neg q, hb j]
    by_cases q2 : 0 ≤ j ∧ j < (i : Int)
    · rw [if_pos q2, if_pos (by omega)]
    · rw [if_neg q2, if_neg (by omega)]
theorem updR_self (f : Nat → Int → Int) (r : Nat) : mm_updR f r (f r) = f := by
  funext i
  unfold mm_updR
  split
  · rename_i h; rw [h]
  · rfl
theorem updR_upd (f : Nat → Int → Int) (r : Nat) (a b : Int → Int) : mm_updR (mm_updR f r a) r b = mm_updR f r b := by
  funext i
  unfold mm_updR
  split <;> rfl
theorem updR_at (f : Nat → Int → Int) (r : Nat) (a : Int → Int) : mm_updR f r a r = a := by
  unfold mm_updR
  rw [if_pos rfl]
theorem updR_ne {f : Nat → Int → Int} {r i : Nat} {a : Int → Int} (h : i ≠ r) : mm_updR f r a i = f i := by
  unfold mm_updR
  rw [if_neg h]
set_option maxHeartbeats 4000000 in
theorem s_J7_fill_53178 : mm_Spec e_J7_fill_53178 kJ7_fill_53178 4 T_J7_fill_53178 := by
  rintro N X K av h hK ⟨w, c, v, rfl, hh⟩
  rcases hh with ⟨rfl, h2⟩ | ⟨rfl, h2⟩ | ⟨rfl, h2⟩ | ⟨r, hr, rfl, h2⟩
  · have loop : ∀ i : Nat, i ≤ 5 → ∀ b : Int → Int, (∀ j : Int, b j = if 0 ≤ j ∧ j < (i : Int) then v else c.2.1 9 j) → K 5 [some (mR 9), some (mI v), some (mI (i : Int)), some (mI 5)] [] (hC w (kA c 9 b)) 0 0 := by
      refine mm_for 5 (fun b hb => ?_) (fun i hi ih b hb => ?_)
      · refine hK [5] _ _ _ _ _ _ ?_
        refine And.intro (fun _ => ?_) (fun q => absurd q (by omega))
        exact h2 b hb
      · refine hK [5] _ _ _ _ _ _ ?_
        refine And.intro (fun q => absurd q (by omega)) (fun _ => ?_)
        refine And.intro (by omega) ?_
        refine And.intro (rng_of (by omega) (by omega)) ?_
        exact ih _ (fill_step (n := 5) hb)
    refine ⟨rfl, hK [5] _ _ _ _ _ _ ?_⟩
    exact loop 0 (by omega) (c.2.1 9) (fun j => by rw [if_neg (by omega)])
  · have loop : ∀ i : Nat, i ≤ 27 → ∀ b : Int → Int, (∀ j : Int, b j = if 0 ≤ j ∧ j < (i : Int) then v else c.2.1 16 j) → K 5 [some (mR 16), some (mI v), some (mI (i : Int)), some (mI 27)] [] (hC w (kA c 16 b)) 0 0 := by
      refine mm_for 27 (fun b hb => ?_) (fun i hi ih b hb => ?_)
      · refine hK [5] _ _ _ _ _ _ ?_
        refine And.intro (fun _ => ?_) (fun q => absurd q (by omega))
        exact h2 b hb
      · refine hK [5] _ _ _ _ _ _ ?_
        refine And.intro (fun q => absurd q (by omega)) (fun _ => ?_)
        refine And.intro (by omega) ?_
        refine And.intro (rng_of (by omega) (by omega)) ?_
        exact ih _ (fill_step (n := 27) hb)
    refine ⟨rfl, hK [5] _ _ _ _ _ _ ?_⟩
    exact loop 0 (by omega) (c.2.1 16) (fun j => by rw [if_neg (by omega)])
  · have loop : ∀ i : Nat, i ≤ 27 → ∀ b : Int → Int, (∀ j : Int, b j = if 0 ≤ j ∧ j < (i : Int) then v else c.2.1 22 j) → K 5 [some (mR 22), some (mI v), some (mI (i : Int)), some (mI 27)] [] (hC w (kA c 22 b)) 0 0 := by
      refine mm_for 27 (fun b hb => ?_) (fun i hi ih b hb => ?_)
      · refine hK [5] _ _ _ _ _ _ ?_
        refine And.intro (fun _ => ?_) (fun q => absurd q (by omega))
        exact h2 b hb
      · refine hK [5] _ _ _ _ _ _ ?_
        refine And.intro (fun q => absurd q (by omega)) (fun _ => ?_)
        refine And.intro (by omega) ?_
        refine And.intro (rng_of (by omega) (by omega)) ?_
        exact ih _ (fill_step (n := 27) hb)
    refine ⟨rfl, hK [5] _ _ _ _ _ _ ?_⟩
    exact loop 0 (by omega) (c.2.1 22) (fun j => by rw [if_neg (by omega)])
  · have loop : ∀ i : Nat, i ≤ 220 → ∀ b : Int → Int, (∀ j : Int, b j = if 0 ≤ j ∧ j < (i : Int) then v else c.2.2.2.1 r j) → K 5 [some (mQ r), some (mI v), some (mI (i : Int)), some (mI 220)] [] (hC w (kR c (mm_updR c.2.2.2.1 r b))) 0 0 := by
      refine mm_for 220 (fun b hb => ?_) (fun i hi ih b hb => ?_)
      · refine hK [5] _ _ _ _ _ _ ?_
        refine And.intro (fun _ => ?_) (fun q => absurd q (by omega))
        exact h2 b hb
      · refine hK [5] _ _ _ _ _ _ ?_
        refine And.intro (fun q => absurd q (by omega)) (fun _ => ?_)
        refine And.intro ⟨hr, by omega, by omega⟩ ?_
        refine And.intro (rng_of (by omega) (by omega)) ?_
        have h3 := ih _ (fill_step (n := 220) hb)
        have e : mm_updR (mm_updR c.2.2.2.1 r b) r (mm_upd (mm_updR c.2.2.2.1 r b r) (i : Int) v) = mm_updR c.2.2.2.1 r (mm_upd b (i : Int) v) := by rw [updR_upd, updR_at]
        rw [← e] at h3
        exact h3
    refine ⟨rfl, hK [5] _ _ _ _ _ _ ?_⟩
    refine And.intro hr ?_
    have h3 := loop 0 (by omega) (c.2.2.2.1 r) (fun j => by rw [if_neg (by omega)])
    rw [updR_self] at h3
    exact h3
theorem m_J7_fill_53178 (l : Launch) : mm_Met l yJ7_fill_53178 cJ7_fill_53178 4 none 0 0 0 T_J7_fill_53178 := mm_met (E := e_J7_fill_53178) (cd := kJ7_fill_53178) s_J7_fill_53178 (by decide) kJ7_fill_53178_ok (by decide +kernel) (by decide +kernel) (Or.inl ⟨rfl, rfl⟩) rfl (mm_eok_J7 _) (mm_calls_nil)
def T_J7_fill_d0a16 : Tr := fun av h N _ => ∃ (w : CW) (c : CS) (v : Int64), h = hC w c ∧ ((av = [mR 12, mL v] ∧ fillL w c 253 (c.2.2.1 12) v (fun b => kL c 12 b) N) ∨ (av = [mR (kW c.2.2.2.2), mL v] ∧ fillL w c 27 (c.2.2.1 20) v (fun b => kL c 20 b) N) ∨ (av = [mR (kJ c.2.2.2.2), mL v] ∧ fillL w c 27 (c.2.2.1 21) v (fun b => kL c 21 b) N))
abbrev e_J7_fill_d0a16 : NE := ([], [], [], [], [], false, 0, (0, 0), [], [], [], true)
set_option maxHeartbeats 4000000 in
theorem s_J7_fill_d0a16 : mm_Spec e_J7_fill_d0a16 kJ7_fill_d0a16 5 T_J7_fill_d0a16 := by
  rintro N X K av h hK ⟨w, ⟨cI, cA, cL, cR, sw⟩, v, rfl, hh⟩
  rcases hh with ⟨rfl, h2⟩ | ⟨rfl, h2⟩ | ⟨rfl, h2⟩
  · have loop : ∀ i : Nat, i ≤ 253 → ∀ b : Int → Int64, (∀ j : Int, b j = if 0 ≤ j ∧ j < (i : Int) then v else cL 12 j) → K 6 [some (mR 12), some (mL v), none, some (mI (i : Int)), some (mI 253)] [] (hC w (kL (cI, cA, cL, cR, sw) 12 b)) 0 0 := by
      refine mm_for 253 (fun b hb => ?_) (fun i hi ih b hb => ?_)
      · refine hK [6] _ _ _ _ _ _ ?_
        refine And.intro (fun _ => ?_) (fun q => absurd q (by omega))
        exact h2 b hb
      · refine hK [6] _ _ _ _ _ _ ?_
        refine And.intro (fun q => absurd q (by omega)) (fun _ => ?_)
        refine And.intro (by omega) ?_
        refine And.intro (rng_of (by omega) (by omega)) ?_
        exact ih _ (fill_stepL (n := 253) hb)
    refine ⟨rfl, hK [6] _ _ _ _ _ _ ?_⟩
    exact loop 0 (by omega) (cL 12) (fun j => by rw [if_neg (by omega)])
  · cases sw with
    | false =>
      have loop : ∀ i : Nat, i ≤ 27 → ∀ b : Int → Int64, (∀ j : Int, b j = if 0 ≤ j ∧ j < (i : Int) then v else cL 20 j) → K 6 [some (mR 20), some (mL v), none, some (mI (i : Int)), some (mI 27)] [] (hC w (kL (cI, cA, cL, cR, false) 20 b)) 0 0 := by
        refine mm_for 27 (fun b hb => ?_) (fun i hi ih b hb => ?_)
        · refine hK [6] _ _ _ _ _ _ ?_
          refine And.intro (fun _ => ?_) (fun q => absurd q (by omega))
          exact h2 b hb
        · refine hK [6] _ _ _ _ _ _ ?_
          refine And.intro (fun q => absurd q (by omega)) (fun _ => ?_)
          refine And.intro (by omega) ?_
          refine And.intro (rng_of (by omega) (by omega)) ?_
          exact ih _ (fill_stepL (n := 27) hb)
      refine ⟨rfl, hK [6] _ _ _ _ _ _ ?_⟩
      exact loop 0 (by omega) (cL 20) (fun j => by rw [if_neg (by omega)])
    | true =>
      have loop : ∀ i : Nat, i ≤ 27 → ∀ b : Int → Int64, (∀ j : Int, b j = if 0 ≤ j ∧ j < (i : Int) then v else cL 20 j) → K 6 [some (mR 21), some (mL v), none, some (mI (i : Int)), some (mI 27)] [] (hC w (kL (cI, cA, cL, cR, true) 20 b)) 0 0 := by
        refine mm_for 27 (fun b hb => ?_) (fun i hi ih b hb => ?_)
        · refine hK [6] _ _ _ _ _ _ ?_
          refine And.intro (fun _ => ?_) (fun q => absurd q (by omega))
          exact h2 b hb
        · refine hK [6] _ _ _ _ _ _ ?_
          refine And.intro (fun q => absurd q (by omega)) (fun _ => ?_)
          refine And.intro (by omega) ?_
          refine And.intro (rng_of (by omega) (by omega)) ?_
          exact ih _ (fill_stepL (n := 27) hb)
      refine ⟨rfl, hK [6] _ _ _ _ _ _ ?_⟩
      exact loop 0 (by omega) (cL 20) (fun j => by rw [if_neg (by omega)])
  · cases sw with
    | false =>
      have loop : ∀ i : Nat, i ≤ 27 → ∀ b : Int → Int64, (∀ j : Int, b j = if 0 ≤ j ∧ j < (i : Int) then v else cL 21 j) → K 6 [some (mR 21), some (mL v), none, some (mI (i : Int)), some (mI 27)] [] (hC w (kL (cI, cA, cL, cR, false) 21 b)) 0 0 := by
        refine mm_for 27 (fun b hb => ?_) (fun i hi ih b hb => ?_)
        · refine hK [6] _ _ _ _ _ _ ?_
          refine And.intro (fun _ => ?_) (fun q => absurd q (by omega))
          exact h2 b hb
        · refine hK [6] _ _ _ _ _ _ ?_
          refine And.intro (fun q => absurd q (by omega)) (fun _ => ?_)
          refine And.intro (by omega) ?_
          refine And.intro (rng_of (by omega) (by omega)) ?_
          exact ih _ (fill_stepL (n := 27) hb)
      refine ⟨rfl, hK [6] _ _ _ _ _ _ ?_⟩
      exact loop 0 (by omega) (cL 21) (fun j => by rw [if_neg (by omega)])
    | true =>
      have loop : ∀ i : Nat, i ≤ 27 → ∀ b : Int → Int64, (∀ j : Int, b j = if 0 ≤ j ∧ j < (i : Int) then v else cL 21 j) → K 6 [some (mR 20), some (mL v), none, some (mI (i : Int)), some (mI 27)] [] (hC w (kL (cI, cA, cL, cR, true) 21 b)) 0 0 := by
        refine mm_for 27 (fun b hb => ?_) (fun i hi ih b hb => ?_)
        · refine hK [6] _ _ _ _ _ _ ?_
          refine And.intro (fun _ => ?_) (fun q => absurd q (by omega))
          exact h2 b hb
        · refine hK [6] _ _ _ _ _ _ ?_
          refine And.intro (fun q => absurd q (by omega)) (fun _ => ?_)
          refine And.intro (by omega) ?_
          refine And.intro (rng_of (by omega) (by omega)) ?_
          exact ih _ (fill_stepL (n := 27) hb)
      refine ⟨rfl, hK [6] _ _ _ _ _ _ ?_⟩
      exact loop 0 (by omega) (cL 21) (fun j => by rw [if_neg (by omega)])
theorem m_J7_fill_d0a16 (l : Launch) : mm_Met l yJ7_fill_d0a16 cJ7_fill_d0a16 5 none 0 0 0 T_J7_fill_d0a16 := mm_met (E := e_J7_fill_d0a16) (cd := kJ7_fill_d0a16) s_J7_fill_d0a16 (by decide) kJ7_fill_d0a16_ok (by decide +kernel) (by decide +kernel) (Or.inl ⟨rfl, rfl⟩) rfl (mm_eok_J7 _) (mm_calls_nil)
