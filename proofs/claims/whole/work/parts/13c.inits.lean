/-! constructors -/
abbrev z0 : Int → Int := fun _ => 0
abbrev zL : Int → Int64 := fun _ => 0
abbrev D0 : List MV := [mN, mN, mN, mN]
abbrev D1 : List MV := [mI 0, mI 0, mI 0, mI 0, mI 0, mN, mN, mN, mN, mN, mN, mN, mN]
abbrev D2 : List MV := [mI 0, mN, mN, mN, mN]
abbrev D3 : List MV := [mN, mI 0, mI 0, mN, mN, mN, mI 0, mI 0, mI 0, mI 0, mI 0, mI 0]
abbrev D4 : List MV := [mI 0, mI 0, mI 0, mN, mN, mN, mN, mI 0]
abbrev D5 : List MV := [mN, mI 0]
abbrev D6 : List MV := [mN, mN, mN]
abbrev D7 : List MV := [mN, mN, mI 0, mI 0, mI 0]
abbrev D8 : List MV := [mN, mN, mN, mN, mI 0]
abbrev D9 : List MV := [mN, mN, mN, mN, mN, mN, mN, mN, mN, mN, mN, mI 0, mI 0]
abbrev D10 : List MV := [mN, mI 0, mI 0, mI 0, mI 0, mI 0, mI 0, mN, mN, mN, mN, mN, mN, mN, mI 0, mI 0, mN, mN, mN, mN, mN, mN, mN, mI 0, mN, mN, mN, mN, mI 0, mI 0, mI 0, mI 0, mI 0, mI 0, mI 0, mI 0, mI 0, mI 0, mI 0, mI 0, mI 0, mN, mN, mN, mN, mN, mN, mI 0, mI 0, mN, mN, mN, mI 0]
theorem vwCl_0 : vwCl[0]? = some (RX0, TX0, 4) := rfl
theorem vwCl_1 : vwCl[1]? = some (RX1, TX1, 13) := rfl
theorem vwCl_2 : vwCl[2]? = some (RX2, TX2, 5) := rfl
theorem vwCl_3 : vwCl[3]? = some (RX3, TX3, 12) := rfl
theorem vwCl_4 : vwCl[4]? = some (RX4, TX4, 8) := rfl
theorem vwCl_5 : vwCl[5]? = some (RX5, TX5, 2) := rfl
theorem vwCl_6 : vwCl[6]? = some (RX6, TX6, 3) := rfl
theorem vwCl_7 : vwCl[7]? = some (RX7, TX7, 5) := rfl
theorem vwCl_8 : vwCl[8]? = some (RX8, TX8, 5) := rfl
theorem vwCl_9 : vwCl[9]? = some (RX9, TX9, 13) := rfl
theorem vwCl_10 : vwCl[10]? = some (RX10, TX10, 53) := rfl
theorem mm_nk_nil {own : String} : mm_Nok own [] := fun _ _ _ h => nomatch h
theorem mm_nk_cons {own : String} {i ci : Nat} {fs : List MV} {t : List (Nat × Nat × List MV)} {q : vw_C} (h0 : fs = mm_d0 ci) (hq : vwCl[ci]? = some q) (h1 : Jvm.Cond.classLink own i q.1 ∈ mm_gt) (h2 : Jvm.Cond.instantiable q.1 q.2.2 ∈ mm_gt) (h3 : Jvm.Cond.initialized q.1 ∈ mm_gt) (ht : mm_Nok own t) : mm_Nok own ((i, (ci, fs)) :: t) := by
  intro j cj gs h
  unfold mm_look at h
  split at h
  · rename_i hk
    cases h
    rw [← Nat.eq_of_beq_eq_true hk]
    exact ⟨h0, q, hq, h1, h2, h3⟩
  · exact ht j cj gs h
theorem mm_ini_of {own : String} {ft : List (Nat × Nat × Nat)} {c0 n : Nat} {TT : u_T} (hF : mm_Fok own ft) (hc : ∀ q ∈ ft, q.2.1 = c0) (hq : vwCl[c0]? = some (own, TT, n)) (hT : ∀ k, k < n → (TT k).1 = own) : ∀ (i ci k : Nat) (q : vw_C), mm_look ft i = some (ci, k) → vwCl[ci]? = some q → (q.2.1 k).1 = own := by
  intro i ci k q h1 h2
  have e := hc _ (mm_look_mem _ _ _ h1)
  have e : ci = c0 := e
  subst e
  obtain ⟨r, h3, h4, -⟩ := hF i ci k h1
  rw [hq] at h2 h3
  cases h2
  cases h3
  exact hT k h4
def fiX0 : List (Nat × Nat × Nat) := [(24, 0, 0), (11, 0, 1), (17, 0, 2), (20, 0, 3)]
theorem fiX0_in : ∀ q ∈ fiX0, q ∈ ftX0 ∧ q.2.1 = 0 := by decide +kernel
theorem fiX0_ok : mm_Fok RX0 fiX0 := mm_Fok_of (fun q hq => ftX0_ok q (fiX0_in q hq).1)
theorem fiX0_own : ∀ k, k < 4 → (TX0 k).1 = RX0 := by decide +kernel
theorem fiX0_ini : ∀ (i ci k : Nat) (q : vw_C), mm_look fiX0 i = some (ci, k) → vwCl[ci]? = some q → (q.2.1 k).1 = RX0 := mm_ini_of fiX0_ok (fun q hq => (fiX0_in q hq).2) vwCl_0 fiX0_own
def fiX1 : List (Nat × Nat × Nat) := [(39, 1, 0), (43, 1, 1), (46, 1, 2), (90, 1, 3), (103, 1, 4), (11, 1, 5), (15, 1, 6), (18, 1, 7), (21, 1, 8), (24, 1, 9), (27, 1, 10), (30, 1, 11), (33, 1, 12)]
theorem fiX1_in : ∀ q ∈ fiX1, q ∈ ftX1 ∧ q.2.1 = 1 := by decide +kernel
theorem fiX1_ok : mm_Fok RX1 fiX1 := mm_Fok_of (fun q hq => ftX1_ok q (fiX1_in q hq).1)
theorem fiX1_own : ∀ k, k < 13 → (TX1 k).1 = RX1 := by decide +kernel
theorem fiX1_ini : ∀ (i ci k : Nat) (q : vw_C), mm_look fiX1 i = some (ci, k) → vwCl[ci]? = some q → (q.2.1 k).1 = RX1 := mm_ini_of fiX1_ok (fun q hq => (fiX1_in q hq).2) vwCl_1 fiX1_own
def fiX2 : List (Nat × Nat × Nat) := [(24, 2, 0), (9, 2, 1), (15, 2, 2), (18, 2, 3), (21, 2, 4)]
theorem fiX2_in : ∀ q ∈ fiX2, q ∈ ftX2 ∧ q.2.1 = 2 := by decide +kernel
theorem fiX2_ok : mm_Fok RX2 fiX2 := mm_Fok_of (fun q hq => ftX2_ok q (fiX2_in q hq).1)
theorem fiX2_own : ∀ k, k < 5 → (TX2 k).1 = RX2 := by decide +kernel
theorem fiX2_ini : ∀ (i ci k : Nat) (q : vw_C), mm_look fiX2 i = some (ci, k) → vwCl[ci]? = some q → (q.2.1 k).1 = RX2 := mm_ini_of fiX2_ok (fun q hq => (fiX2_in q hq).2) vwCl_2 fiX2_own
def fiX3 : List (Nat × Nat × Nat) := [(12, 3, 0), (34, 3, 1), (37, 3, 2), (18, 3, 3), (22, 3, 4), (26, 3, 5), (46, 3, 6), (47, 3, 7), (50, 3, 8), (59, 3, 9), (130, 3, 10), (79, 3, 11)]
theorem fiX3_in : ∀ q ∈ fiX3, q ∈ ftX3 ∧ q.2.1 = 3 := by decide +kernel
theorem fiX3_ok : mm_Fok RX3 fiX3 := mm_Fok_of (fun q hq => ftX3_ok q (fiX3_in q hq).1)
theorem fiX3_own : ∀ k, k < 12 → (TX3 k).1 = RX3 := by decide +kernel
theorem fiX3_ini : ∀ (i ci k : Nat) (q : vw_C), mm_look fiX3 i = some (ci, k) → vwCl[ci]? = some q → (q.2.1 k).1 = RX3 := mm_ini_of fiX3_ok (fun q hq => (fiX3_in q hq).2) vwCl_3 fiX3_own
def fiX4 : List (Nat × Nat × Nat) := [(26, 4, 0), (48, 4, 1), (30, 4, 2), (11, 4, 3), (15, 4, 4), (19, 4, 5), (23, 4, 6), (84, 4, 7)]
theorem fiX4_in : ∀ q ∈ fiX4, q ∈ ftX4 ∧ q.2.1 = 4 := by decide +kernel
theorem fiX4_ok : mm_Fok RX4 fiX4 := mm_Fok_of (fun q hq => ftX4_ok q (fiX4_in q hq).1)
theorem fiX4_own : ∀ k, k < 8 → (TX4 k).1 = RX4 := by decide +kernel
theorem fiX4_ini : ∀ (i ci k : Nat) (q : vw_C), mm_look fiX4 i = some (ci, k) → vwCl[ci]? = some q → (q.2.1 k).1 = RX4 := mm_ini_of fiX4_ok (fun q hq => (fiX4_in q hq).2) vwCl_4 fiX4_own
def fiX5 : List (Nat × Nat × Nat) := [(13, 5, 0), (17, 5, 1)]
theorem fiX5_in : ∀ q ∈ fiX5, q ∈ ftX5 ∧ q.2.1 = 5 := by decide +kernel
theorem fiX5_ok : mm_Fok RX5 fiX5 := mm_Fok_of (fun q hq => ftX5_ok q (fiX5_in q hq).1)
theorem fiX5_own : ∀ k, k < 2 → (TX5 k).1 = RX5 := by decide +kernel
theorem fiX5_ini : ∀ (i ci k : Nat) (q : vw_C), mm_look fiX5 i = some (ci, k) → vwCl[ci]? = some q → (q.2.1 k).1 = RX5 := mm_ini_of fiX5_ok (fun q hq => (fiX5_in q hq).2) vwCl_5 fiX5_own
def fiX6 : List (Nat × Nat × Nat) := [(9, 6, 0), (15, 6, 1), (19, 6, 2)]
theorem fiX6_in : ∀ q ∈ fiX6, q ∈ ftX6 ∧ q.2.1 = 6 := by decide +kernel
theorem fiX6_ok : mm_Fok RX6 fiX6 := mm_Fok_of (fun q hq => ftX6_ok q (fiX6_in q hq).1)
theorem fiX6_own : ∀ k, k < 3 → (TX6 k).1 = RX6 := by decide +kernel
theorem fiX6_ini : ∀ (i ci k : Nat) (q : vw_C), mm_look fiX6 i = some (ci, k) → vwCl[ci]? = some q → (q.2.1 k).1 = RX6 := mm_ini_of fiX6_ok (fun q hq => (fiX6_in q hq).2) vwCl_6 fiX6_own
def fiX7 : List (Nat × Nat × Nat) := [(15, 7, 0), (11, 7, 1), (25, 7, 2), (42, 7, 3), (45, 7, 4)]
theorem fiX7_in : ∀ q ∈ fiX7, q ∈ ftX7 ∧ q.2.1 = 7 := by decide +kernel
theorem fiX7_ok : mm_Fok RX7 fiX7 := mm_Fok_of (fun q hq => ftX7_ok q (fiX7_in q hq).1)
theorem fiX7_own : ∀ k, k < 5 → (TX7 k).1 = RX7 := by decide +kernel
theorem fiX7_ini : ∀ (i ci k : Nat) (q : vw_C), mm_look fiX7 i = some (ci, k) → vwCl[ci]? = some q → (q.2.1 k).1 = RX7 := mm_ini_of fiX7_ok (fun q hq => (fiX7_in q hq).2) vwCl_7 fiX7_own
def fiX8 : List (Nat × Nat × Nat) := [(16, 8, 0), (20, 8, 1), (24, 8, 2), (13, 8, 3), (27, 8, 4)]
theorem fiX8_in : ∀ q ∈ fiX8, q ∈ ftX8 ∧ q.2.1 = 8 := by decide +kernel
theorem fiX8_ok : mm_Fok RX8 fiX8 := mm_Fok_of (fun q hq => ftX8_ok q (fiX8_in q hq).1)
theorem fiX8_own : ∀ k, k < 5 → (TX8 k).1 = RX8 := by decide +kernel
theorem fiX8_ini : ∀ (i ci k : Nat) (q : vw_C), mm_look fiX8 i = some (ci, k) → vwCl[ci]? = some q → (q.2.1 k).1 = RX8 := mm_ini_of fiX8_ok (fun q hq => (fiX8_in q hq).2) vwCl_8 fiX8_own
def fiX9 : List (Nat × Nat × Nat) := [(10, 9, 0), (19, 9, 1), (40, 9, 2), (49, 9, 3), (56, 9, 4), (63, 9, 5), (72, 9, 6), (79, 9, 7), (25, 9, 8), (28, 9, 9), (32, 9, 10), (95, 9, 11), (83, 9, 12)]
theorem fiX9_in : ∀ q ∈ fiX9, q ∈ ftX9 ∧ q.2.1 = 9 := by decide +kernel
theorem fiX9_ok : mm_Fok RX9 fiX9 := mm_Fok_of (fun q hq => ftX9_ok q (fiX9_in q hq).1)
theorem fiX9_own : ∀ k, k < 13 → (TX9 k).1 = RX9 := by decide +kernel
theorem fiX9_ini : ∀ (i ci k : Nat) (q : vw_C), mm_look fiX9 i = some (ci, k) → vwCl[ci]? = some q → (q.2.1 k).1 = RX9 := mm_ini_of fiX9_ok (fun q hq => (fiX9_in q hq).2) vwCl_9 fiX9_own
def fiX10 : List (Nat × Nat × Nat) := [(9, 10, 0), (104, 10, 1), (107, 10, 2), (113, 10, 3), (119, 10, 4), (129, 10, 5), (142, 10, 6), (13, 10, 7), (16, 10, 8), (19, 10, 9), (22, 10, 10), (25, 10, 11), (28, 10, 12), (31, 10, 13), (166, 10, 14), (178, 10, 15), (34, 10, 16), (38, 10, 17), (41, 10, 18), (44, 10, 19), (48, 10, 20), (51, 10, 21), (54, 10, 22), (169, 10, 23), (57, 10, 24), (60, 10, 25), (63, 10, 26), (66, 10, 27), (212, 10, 28), (215, 10, 29), (218, 10, 30), (224, 10, 31), (227, 10, 32), (233, 10, 33), (241, 10, 34), (244, 10, 35), (69, 10, 36), (306, 10, 37), (283, 10, 38), (256, 10, 39), (260, 10, 40), (73, 10, 41), (76, 10, 42), (79, 10, 43), (82, 10, 44), (85, 10, 45), (88, 10, 46), (445, 10, 47), (442, 10, 48), (91, 10, 49), (94, 10, 50), (97, 10, 51), (478, 10, 52)]
theorem fiX10_in : ∀ q ∈ fiX10, q ∈ ftX10 ∧ q.2.1 = 10 := by decide +kernel
theorem fiX10_ok : mm_Fok RX10 fiX10 := mm_Fok_of (fun q hq => ftX10_ok q (fiX10_in q hq).1)
theorem fiX10_own : ∀ k, k < 53 → (TX10 k).1 = RX10 := by decide +kernel
theorem fiX10_ini : ∀ (i ci k : Nat) (q : vw_C), mm_look fiX10 i = some (ci, k) → vwCl[ci]? = some q → (q.2.1 k).1 = RX10 := mm_ini_of fiX10_ok (fun q hq => (fiX10_in q hq).2) vwCl_10 fiX10_own
def T_X1_init : Tr := fun av h N _ => ∃ (M : List ME) (R : Nat → Int → Int), av = [mR 1] ∧ h = (some 2, [eO 9 [mN, mN, mN, mN, mN, mN, mN, mN, mN, mN, mN, mI 0, mI 0], eO 1 [mI 0, mI 0, mI 0, mI 0, mI 0, mN, mN, mN, mN, mN, mN, mN, mN]], M, 0, R) ∧ N none (some 10, [eO 9 [mN, mN, mN, mN, mN, mN, mN, mN, mN, mN, mN, mI 0, mI 0], eO 1 [mI 0, mI 0, mI 0, mI 0, mI 0, mR 2, mR 3, mR 4, mR 5, mR 6, mR 7, mR 8, mR 9], eI 0 729 z0, eI 0 27 z0, eI 0 27 z0, eI 0 729 z0, eI 0 27 z0, eI 0 27 z0, eI 0 27 z0, eI 0 5 z0], M, 0, R)
abbrev e_X1_init : NE := (fiX1, [], ltX1, [], [3], true, 0, (8, 1598), [], [], [], true)
set_option maxHeartbeats 4000000 in
theorem s_X1_init : mm_Spec e_X1_init kX1_init 1 T_X1_init := by
  rintro N X K av h hK ⟨M, R, rfl, rfl, h2⟩
  refine ⟨rfl, hK [] _ _ _ _ _ _ ?_⟩
  exact h2
theorem wi_X1_init : mm_Yi yX1_init cX1_init 1 0 := ⟨tb1 (i := 33) rfl rfl, tb1 (i := 2) rfl rfl, ⟨by decide, by decide, by decide +kernel⟩, rfl, tb1 (i := 32) rfl rfl⟩
theorem m_X1_init (l : Launch) : mm_MetI l yX1_init cX1_init 1 1 8 1598 T_X1_init := mm_metI (E := e_X1_init) (cd := kX1_init) s_X1_init (by decide) kX1_init_ok (by decide +kernel) rfl rfl (by decide) (mm_nk_nil) (fun i hi => by rw [show mm_mix kX1_init = [] by decide +kernel] at hi; cases hi) ⟨fiX1_ok, (fun _ h => nomatch h), (fun _ => ⟨rfl, fiX1_ini⟩), (fun _ _ _ h => nomatch h), (fun _ _ h => nomatch h), Or.inr (by decide), (fun i hi => by rw [List.mem_singleton.mp hi]; exact tb1 (i := 34) rfl rfl)⟩ (mm_ci_nil)
def T_X4_init : Tr := fun av h N _ => ∃ (M : List ME) (R : Nat → Int → Int), av = [mR 10] ∧ h = (some 11, [eO 9 [mR 1, mN, mN, mN, mN, mN, mN, mN, mN, mN, mN, mI 0, mI 0], eO 1 [mI 0, mI 0, mI 0, mI 0, mI 0, mR 2, mR 3, mR 4, mR 5, mR 6, mR 7, mR 8, mR 9], eI 0 729 z0, eI 0 27 z0, eI 0 27 z0, eI 0 729 z0, eI 0 27 z0, eI 0 27 z0, eI 0 27 z0, eI 0 5 z0, eO 4 [mI 0, mI 0, mI 0, mN, mN, mN, mN, mI 0]], M, 0, R) ∧ N none (some 15, [eO 9 [mR 1, mN, mN, mN, mN, mN, mN, mN, mN, mN, mN, mI 0, mI 0], eO 1 [mI 0, mI 0, mI 0, mI 0, mI 0, mR 2, mR 3, mR 4, mR 5, mR 6, mR 7, mR 8, mR 9], eI 0 729 z0, eI 0 27 z0, eI 0 27 z0, eI 0 729 z0, eI 0 27 z0, eI 0 27 z0, eI 0 27 z0, eI 0 5 z0, eO 4 [mI 0, mI 0, mI 0, mR 11, mR 12, mR 13, mR 14, mI 0], eI 1 506 z0, eL 253 zL, eI 0 220 z0, eI 0 220 z0], M, 0, R)
abbrev e_X4_init : NE := (fiX4, [], ltX4, [], [3], true, 0, (4, 1199), [], [], [], true)
set_option maxHeartbeats 4000000 in
theorem s_X4_init : mm_Spec e_X4_init kX4_init 1 T_X4_init := by
  rintro N X K av h hK ⟨M, R, rfl, rfl, h2⟩
  refine ⟨rfl, hK [] _ _ _ _ _ _ ?_⟩
  exact h2
theorem wi_X4_init : mm_Yi yX4_init cX4_init 1 0 := ⟨tb1 (i := 90) rfl rfl, tb1 (i := 3) rfl rfl, ⟨by decide, by decide, by decide +kernel⟩, rfl, tb1 (i := 89) rfl rfl⟩
theorem m_X4_init (l : Launch) : mm_MetI l yX4_init cX4_init 1 1 4 1199 T_X4_init := mm_metI (E := e_X4_init) (cd := kX4_init) s_X4_init (by decide) kX4_init_ok (by decide +kernel) rfl rfl (by decide) (mm_nk_nil) (fun i hi => by rw [show mm_mix kX4_init = [] by decide +kernel] at hi; cases hi) ⟨fiX4_ok, ltX4_ok, (fun _ => ⟨rfl, fiX4_ini⟩), (fun _ _ _ h => nomatch h), (fun _ _ h => nomatch h), Or.inr (by decide), (fun i hi => by rw [List.mem_singleton.mp hi]; exact tb1 (i := 91) rfl rfl)⟩ (mm_ci_nil)
def T_X6_init : Tr := fun av h N _ => ∃ (M : List ME) (R : Nat → Int → Int), av = [mR 18, mR 1, mR 10, mR 16] ∧ h = (some 27, [eO 9 [mR 1, mR 10, mN, mN, mN, mN, mN, mN, mR 15, mR 16, mR 17, mI 0, mI 0], eO 1 [mI 0, mI 0, mI 0, mI 0, mI 0, mR 2, mR 3, mR 4, mR 5, mR 6, mR 7, mR 8, mR 9], eI 0 729 z0, eI 0 27 z0, eI 0 27 z0, eI 0 729 z0, eI 0 27 z0, eI 0 27 z0, eI 0 27 z0, eI 0 5 z0, eO 4 [mI 0, mI 0, mI 0, mR 11, mR 12, mR 13, mR 14, mI 0], eI 1 506 z0, eL 253 zL, eI 0 220 z0, eI 0 220 z0, eG 8 0, eI 0 27 z0, eI 0 200 z0, eO 6 [mN, mN, mN]], M, 8, R) ∧ N none (some 27, [eO 9 [mR 1, mR 10, mN, mN, mN, mN, mN, mN, mR 15, mR 16, mR 17, mI 0, mI 0], eO 1 [mI 0, mI 0, mI 0, mI 0, mI 0, mR 2, mR 3, mR 4, mR 5, mR 6, mR 7, mR 8, mR 9], eI 0 729 z0, eI 0 27 z0, eI 0 27 z0, eI 0 729 z0, eI 0 27 z0, eI 0 27 z0, eI 0 27 z0, eI 0 5 z0, eO 4 [mI 0, mI 0, mI 0, mR 11, mR 12, mR 13, mR 14, mI 0], eI 1 506 z0, eL 253 zL, eI 0 220 z0, eI 0 220 z0, eG 8 0, eI 0 27 z0, eI 0 200 z0, eO 6 [mR 1, mR 10, mR 16]], M, 8, R)
abbrev e_X6_init : NE := (fiX6, [], ltX6, [], [3], true, 0, (0, 0), [], [], [], true)
set_option maxHeartbeats 4000000 in
theorem s_X6_init : mm_Spec e_X6_init kX6_init 4 T_X6_init := by
  rintro N X K av h hK ⟨M, R, rfl, rfl, h2⟩
  refine ⟨rfl, hK [] _ _ _ _ _ _ ?_⟩
  exact h2
theorem wi_X6_init : mm_Yi yX6_init cX6_init 4 3 := ⟨tb1 (i := 130) rfl rfl, tb1 (i := 4) rfl rfl, ⟨by decide, by decide, by decide +kernel⟩, rfl, tb1 (i := 129) rfl rfl⟩
theorem m_X6_init (l : Launch) : mm_MetI l yX6_init cX6_init 4 1 0 0 T_X6_init := mm_metI (E := e_X6_init) (cd := kX6_init) s_X6_init (by decide) kX6_init_ok (by decide +kernel) rfl rfl (by decide) (mm_nk_nil) (fun i hi => by rw [show mm_mix kX6_init = [] by decide +kernel] at hi; cases hi) ⟨fiX6_ok, (fun _ h => nomatch h), (fun _ => ⟨rfl, fiX6_ini⟩), (fun _ _ _ h => nomatch h), (fun _ _ h => nomatch h), Or.inr (by decide), (fun i hi => by rw [List.mem_singleton.mp hi]; exact tb1 (i := 131) rfl rfl)⟩ (mm_ci_nil)
def T_X0_init : Tr := fun av h N _ => ∃ (M : List ME) (R : Nat → Int → Int), av = [mR 19, mR 1] ∧ h = (some 28, [eO 9 [mR 1, mR 10, mR 18, mN, mN, mN, mN, mN, mR 15, mR 16, mR 17, mI 0, mI 0], eO 1 [mI 0, mI 0, mI 0, mI 0, mI 0, mR 2, mR 3, mR 4, mR 5, mR 6, mR 7, mR 8, mR 9], eI 0 729 z0, eI 0 27 z0, eI 0 27 z0, eI 0 729 z0, eI 0 27 z0, eI 0 27 z0, eI 0 27 z0, eI 0 5 z0, eO 4 [mI 0, mI 0, mI 0, mR 11, mR 12, mR 13, mR 14, mI 0], eI 1 506 z0, eL 253 zL, eI 0 220 z0, eI 0 220 z0, eG 8 0, eI 0 27 z0, eI 0 200 z0, eO 6 [mR 1, mR 10, mR 16], eO 0 [mN, mN, mN, mN]], M, 8, R) ∧ N none (some 31, [eO 9 [mR 1, mR 10, mR 18, mN, mN, mN, mN, mN, mR 15, mR 16, mR 17, mI 0, mI 0], eO 1 [mI 0, mI 0, mI 0, mI 0, mI 0, mR 2, mR 3, mR 4, mR 5, mR 6, mR 7, mR 8, mR 9], eI 0 729 z0, eI 0 27 z0, eI 0 27 z0, eI 0 729 z0, eI 0 27 z0, eI 0 27 z0, eI 0 27 z0, eI 0 5 z0, eO 4 [mI 0, mI 0, mI 0, mR 11, mR 12, mR 13, mR 14, mI 0], eI 1 506 z0, eL 253 zL, eI 0 220 z0, eI 0 220 z0, eG 8 0, eI 0 27 z0, eI 0 200 z0, eO 6 [mR 1, mR 10, mR 16], eO 0 [mR 1, mR 20, mR 21, mR 22], eL 27 zL, eL 27 zL, eI 0 27 z0], M, 8, R)
abbrev e_X0_init : NE := (fiX0, [], ltX0, [], [3], true, 0, (3, 81), [], [], [], true)
set_option maxHeartbeats 4000000 in
theorem s_X0_init : mm_Spec e_X0_init kX0_init 2 T_X0_init := by
  rintro N X K av h hK ⟨M, R, rfl, rfl, h2⟩
  refine ⟨rfl, hK [] _ _ _ _ _ _ ?_⟩
  exact h2
theorem wi_X0_init : mm_Yi yX0_init cX0_init 2 1 := ⟨tb1 (i := 146) rfl rfl, tb1 (i := 5) rfl rfl, ⟨by decide, by decide, by decide +kernel⟩, rfl, tb1 (i := 145) rfl rfl⟩
theorem m_X0_init (l : Launch) : mm_MetI l yX0_init cX0_init 2 1 3 81 T_X0_init := mm_metI (E := e_X0_init) (cd := kX0_init) s_X0_init (by decide) kX0_init_ok (by decide +kernel) rfl rfl (by decide) (mm_nk_nil) (fun i hi => by rw [show mm_mix kX0_init = [] by decide +kernel] at hi; cases hi) ⟨fiX0_ok, (fun _ h => nomatch h), (fun _ => ⟨rfl, fiX0_ini⟩), (fun _ _ _ h => nomatch h), (fun _ _ h => nomatch h), Or.inr (by decide), (fun i hi => by rw [List.mem_singleton.mp hi]; exact tb1 (i := 147) rfl rfl)⟩ (mm_ci_nil)
def T_X7_init : Tr := fun av h N _ => ∃ (M : List ME) (R : Nat → Int → Int), av = [mR 23, mR 1] ∧ h = (some 32, [eO 9 [mR 1, mR 10, mR 18, mR 19, mN, mN, mN, mN, mR 15, mR 16, mR 17, mI 0, mI 0], eO 1 [mI 0, mI 0, mI 0, mI 0, mI 0, mR 2, mR 3, mR 4, mR 5, mR 6, mR 7, mR 8, mR 9], eI 0 729 z0, eI 0 27 z0, eI 0 27 z0, eI 0 729 z0, eI 0 27 z0, eI 0 27 z0, eI 0 27 z0, eI 0 5 z0, eO 4 [mI 0, mI 0, mI 0, mR 11, mR 12, mR 13, mR 14, mI 0], eI 1 506 z0, eL 253 zL, eI 0 220 z0, eI 0 220 z0, eG 8 0, eI 0 27 z0, eI 0 200 z0, eO 6 [mR 1, mR 10, mR 16], eO 0 [mR 1, mR 20, mR 21, mR 22], eL 27 zL, eL 27 zL, eI 0 27 z0, eO 7 [mN, mN, mI 0, mI 0, mI 0]], M, 8, R) ∧ N none (some 33, [eO 9 [mR 1, mR 10, mR 18, mR 19, mN, mN, mN, mN, mR 15, mR 16, mR 17, mI 0, mI 0], eO 1 [mI 0, mI 0, mI 0, mI 0, mI 0, mR 2, mR 3, mR 4, mR 5, mR 6, mR 7, mR 8, mR 9], eI 0 729 z0, eI 0 27 z0, eI 0 27 z0, eI 0 729 z0, eI 0 27 z0, eI 0 27 z0, eI 0 27 z0, eI 0 5 z0, eO 4 [mI 0, mI 0, mI 0, mR 11, mR 12, mR 13, mR 14, mI 0], eI 1 506 z0, eL 253 zL, eI 0 220 z0, eI 0 220 z0, eG 8 0, eI 0 27 z0, eI 0 200 z0, eO 6 [mR 1, mR 10, mR 16], eO 0 [mR 1, mR 20, mR 21, mR 22], eL 27 zL, eL 27 zL, eI 0 27 z0, eO 7 [mR 1, mR 24, mI 0, mI 0, mI 0], eI 0 4096 z0], M, 8, R)
abbrev e_X7_init : NE := (fiX7, [], ltX7, [], [3], true, 0, (1, 4096), [], [], [], true)
set_option maxHeartbeats 4000000 in
theorem s_X7_init : mm_Spec e_X7_init kX7_init 2 T_X7_init := by
  rintro N X K av h hK ⟨M, R, rfl, rfl, h2⟩
  refine ⟨rfl, hK [] _ _ _ _ _ _ ?_⟩
  exact h2
theorem wi_X7_init : mm_Yi yX7_init cX7_init 2 1 := ⟨tb1 (i := 165) rfl rfl, tb1 (i := 6) rfl rfl, ⟨by decide, by decide, by decide +kernel⟩, rfl, tb1 (i := 164) rfl rfl⟩
theorem m_X7_init (l : Launch) : mm_MetI l yX7_init cX7_init 2 1 1 4096 T_X7_init := mm_metI (E := e_X7_init) (cd := kX7_init) s_X7_init (by decide) kX7_init_ok (by decide +kernel) rfl rfl (by decide) (mm_nk_nil) (fun i hi => by rw [show mm_mix kX7_init = [] by decide +kernel] at hi; cases hi) ⟨fiX7_ok, (fun _ h => nomatch h), (fun _ => ⟨rfl, fiX7_ini⟩), (fun _ _ _ h => nomatch h), (fun _ _ h => nomatch h), Or.inr (by decide), (fun i hi => by rw [List.mem_singleton.mp hi]; exact tb1 (i := 166) rfl rfl)⟩ (mm_ci_nil)
def T_X2_init : Tr := fun av h N _ => ∃ (M : List ME) (R : Nat → Int → Int), av = [mR 26] ∧ h = (some 35, [eO 9 [mR 1, mR 10, mR 18, mR 19, mR 23, mN, mN, mN, mR 15, mR 16, mR 17, mI 0, mI 0], eO 1 [mI 0, mI 0, mI 0, mI 0, mI 0, mR 2, mR 3, mR 4, mR 5, mR 6, mR 7, mR 8, mR 9], eI 0 729 z0, eI 0 27 z0, eI 0 27 z0, eI 0 729 z0, eI 0 27 z0, eI 0 27 z0, eI 0 27 z0, eI 0 5 z0, eO 4 [mI 0, mI 0, mI 0, mR 11, mR 12, mR 13, mR 14, mI 0], eI 1 506 z0, eL 253 zL, eI 0 220 z0, eI 0 220 z0, eG 8 0, eI 0 27 z0, eI 0 200 z0, eO 6 [mR 1, mR 10, mR 16], eO 0 [mR 1, mR 20, mR 21, mR 22], eL 27 zL, eL 27 zL, eI 0 27 z0, eO 7 [mR 1, mR 24, mI 0, mI 0, mI 0], eI 0 4096 z0, eO 3 [mN, mI 0, mI 0, mN, mN, mN, mI 0, mI 0, mI 0, mI 0, mI 0, mI 0], eO 2 [mI 0, mN, mN, mN, mN]], M, 8, R) ∧ N none (some 39, [eO 9 [mR 1, mR 10, mR 18, mR 19, mR 23, mN, mN, mN, mR 15, mR 16, mR 17, mI 0, mI 0], eO 1 [mI 0, mI 0, mI 0, mI 0, mI 0, mR 2, mR 3, mR 4, mR 5, mR 6, mR 7, mR 8, mR 9], eI 0 729 z0, eI 0 27 z0, eI 0 27 z0, eI 0 729 z0, eI 0 27 z0, eI 0 27 z0, eI 0 27 z0, eI 0 5 z0, eO 4 [mI 0, mI 0, mI 0, mR 11, mR 12, mR 13, mR 14, mI 0], eI 1 506 z0, eL 253 zL, eI 0 220 z0, eI 0 220 z0, eG 8 0, eI 0 27 z0, eI 0 200 z0, eO 6 [mR 1, mR 10, mR 16], eO 0 [mR 1, mR 20, mR 21, mR 22], eL 27 zL, eL 27 zL, eI 0 27 z0, eO 7 [mR 1, mR 24, mI 0, mI 0, mI 0], eI 0 4096 z0, eO 3 [mN, mI 0, mI 0, mN, mN, mN, mI 0, mI 0, mI 0, mI 0, mI 0, mI 0], eO 2 [mI 0, mR 27, mR 28, mR 29, mR 30], eI 0 200 z0, eI 0 200 z0, eI 0 200 z0, eI 0 200 z0], M, 8, R)
abbrev e_X2_init : NE := (fiX2, [], ltX2, [], [3], true, 0, (4, 800), [], [], [], true)
set_option maxHeartbeats 4000000 in
theorem s_X2_init : mm_Spec e_X2_init kX2_init 1 T_X2_init := by
  rintro N X K av h hK ⟨M, R, rfl, rfl, h2⟩
  refine ⟨rfl, hK [] _ _ _ _ _ _ ?_⟩
  exact h2
theorem wi_X2_init : mm_Yi yX2_init cX2_init 1 0 := ⟨tb1 (i := 193) rfl rfl, tb1 (i := 8) rfl rfl, ⟨by decide, by decide, by decide +kernel⟩, rfl, tb1 (i := 192) rfl rfl⟩
theorem m_X2_init (l : Launch) : mm_MetI l yX2_init cX2_init 1 1 4 800 T_X2_init := mm_metI (E := e_X2_init) (cd := kX2_init) s_X2_init (by decide) kX2_init_ok (by decide +kernel) rfl rfl (by decide) (mm_nk_nil) (fun i hi => by rw [show mm_mix kX2_init = [] by decide +kernel] at hi; cases hi) ⟨fiX2_ok, (fun _ h => nomatch h), (fun _ => ⟨rfl, fiX2_ini⟩), (fun _ _ _ h => nomatch h), (fun _ _ h => nomatch h), Or.inr (by decide), (fun i hi => by rw [List.mem_singleton.mp hi]; exact tb1 (i := 194) rfl rfl)⟩ (mm_ci_nil)
def T_X3_init : Tr := fun av h N _ => ∃ (M : List ME) (R : Nat → Int → Int), av = [mR 25, mR 1, mR 10, mR 17] ∧ h = (some 34, [eO 9 [mR 1, mR 10, mR 18, mR 19, mR 23, mN, mN, mN, mR 15, mR 16, mR 17, mI 0, mI 0], eO 1 [mI 0, mI 0, mI 0, mI 0, mI 0, mR 2, mR 3, mR 4, mR 5, mR 6, mR 7, mR 8, mR 9], eI 0 729 z0, eI 0 27 z0, eI 0 27 z0, eI 0 729 z0, eI 0 27 z0, eI 0 27 z0, eI 0 27 z0, eI 0 5 z0, eO 4 [mI 0, mI 0, mI 0, mR 11, mR 12, mR 13, mR 14, mI 0], eI 1 506 z0, eL 253 zL, eI 0 220 z0, eI 0 220 z0, eG 8 0, eI 0 27 z0, eI 0 200 z0, eO 6 [mR 1, mR 10, mR 16], eO 0 [mR 1, mR 20, mR 21, mR 22], eL 27 zL, eL 27 zL, eI 0 27 z0, eO 7 [mR 1, mR 24, mI 0, mI 0, mI 0], eI 0 4096 z0, eO 3 [mN, mI 0, mI 0, mN, mN, mN, mI 0, mI 0, mI 0, mI 0, mI 0, mI 0]], M, 8, R) ∧ N none (some 39, [eO 9 [mR 1, mR 10, mR 18, mR 19, mR 23, mN, mN, mN, mR 15, mR 16, mR 17, mI 0, mI 0], eO 1 [mI 0, mI 0, mI 0, mI 0, mI 0, mR 2, mR 3, mR 4, mR 5, mR 6, mR 7, mR 8, mR 9], eI 0 729 z0, eI 0 27 z0, eI 0 27 z0, eI 0 729 z0, eI 0 27 z0, eI 0 27 z0, eI 0 27 z0, eI 0 5 z0, eO 4 [mI 0, mI 0, mI 0, mR 11, mR 12, mR 13, mR 14, mI 0], eI 1 506 z0, eL 253 zL, eI 0 220 z0, eI 0 220 z0, eG 8 0, eI 0 27 z0, eI 0 200 z0, eO 6 [mR 1, mR 10, mR 16], eO 0 [mR 1, mR 20, mR 21, mR 22], eL 27 zL, eL 27 zL, eI 0 27 z0, eO 7 [mR 1, mR 24, mI 0, mI 0, mI 0], eI 0 4096 z0, eO 3 [mR 26, mI 0, mI 0, mR 1, mR 10, mR 17, mI 0, mI 0, mI 0, mI 0, mI 0, mI 0], eO 2 [mI 0, mR 27, mR 28, mR 29, mR 30], eI 0 200 z0, eI 0 200 z0, eI 0 200 z0, eI 0 200 z0], M, 8, R)
abbrev e_X3_init : NE := (fiX3, [(11, (1, 4, 800, false, (2, 2), T_X2_init))], ltX3, [(9, (2, D2))], [3], true, 0, (5, 805), [], [], [], true)
set_option maxHeartbeats 4000000 in
theorem s_X3_init : mm_Spec e_X3_init kX3_init 4 T_X3_init := by
  rintro N X K av h hK ⟨M, R, rfl, rfl, h2⟩
  refine ⟨rfl, hK [] _ _ _ _ _ _ ?_⟩
  refine ⟨M, R, rfl, rfl, ?_⟩
  exact h2
theorem wi_X3_init : mm_Yi yX3_init cX3_init 4 3 := ⟨tb1 (i := 187) rfl rfl, tb1 (i := 7) rfl rfl, ⟨by decide, by decide, by decide +kernel⟩, rfl, tb1 (i := 186) rfl rfl⟩
theorem m_X3_init (l : Launch) : mm_MetI l yX3_init cX3_init 4 2 5 805 T_X3_init := mm_metI (E := e_X3_init) (cd := kX3_init) s_X3_init (by decide) kX3_init_ok (by decide +kernel) rfl rfl (by decide) (mm_nk_cons rfl (vwCl_2) (tb1 (i := 189) rfl rfl) (tb1 (i := 190) rfl rfl) (tb1 (i := 8) rfl rfl) (mm_nk_nil)) (fun i hi => by rw [show mm_mix kX3_init = [] by decide +kernel] at hi; cases hi) ⟨fiX3_ok, (fun _ h => nomatch h), (fun _ => ⟨rfl, fiX3_ini⟩), (fun _ _ _ h => nomatch h), (fun _ _ h => nomatch h), Or.inr (by decide), (fun i hi => by rw [List.mem_singleton.mp hi]; exact tb1 (i := 188) rfl rfl)⟩ (mm_ci_cons (Or.inr (mm_cis wi_X2_init (Or.inr (List.mem_of_getElem? (i := 2) rfl)) (m_X2_init l) (by decide) (by decide) rfl)) (mm_ci_nil))
def T_X8_init : Tr := fun av h N _ => ∃ (M : List ME) (R : Nat → Int → Int), av = [mR 31, mR 10, mR 18, mR 15] ∧ h = (some 40, [eO 9 [mR 1, mR 10, mR 18, mR 19, mR 23, mR 25, mN, mN, mR 15, mR 16, mR 17, mI 0, mI 0], eO 1 [mI 0, mI 0, mI 0, mI 0, mI 0, mR 2, mR 3, mR 4, mR 5, mR 6, mR 7, mR 8, mR 9], eI 0 729 z0, eI 0 27 z0, eI 0 27 z0, eI 0 729 z0, eI 0 27 z0, eI 0 27 z0, eI 0 27 z0, eI 0 5 z0, eO 4 [mI 0, mI 0, mI 0, mR 11, mR 12, mR 13, mR 14, mI 0], eI 1 506 z0, eL 253 zL, eI 0 220 z0, eI 0 220 z0, eG 8 0, eI 0 27 z0, eI 0 200 z0, eO 6 [mR 1, mR 10, mR 16], eO 0 [mR 1, mR 20, mR 21, mR 22], eL 27 zL, eL 27 zL, eI 0 27 z0, eO 7 [mR 1, mR 24, mI 0, mI 0, mI 0], eI 0 4096 z0, eO 3 [mR 26, mI 0, mI 0, mR 1, mR 10, mR 17, mI 0, mI 0, mI 0, mI 0, mI 0, mI 0], eO 2 [mI 0, mR 27, mR 28, mR 29, mR 30], eI 0 200 z0, eI 0 200 z0, eI 0 200 z0, eI 0 200 z0, eO 8 [mN, mN, mN, mN, mI 0]], M, 8, R) ∧ N none (some 57, [eO 9 [mR 1, mR 10, mR 18, mR 19, mR 23, mR 25, mN, mN, mR 15, mR 16, mR 17, mI 0, mI 0], eO 1 [mI 0, mI 0, mI 0, mI 0, mI 0, mR 2, mR 3, mR 4, mR 5, mR 6, mR 7, mR 8, mR 9], eI 0 729 z0, eI 0 27 z0, eI 0 27 z0, eI 0 729 z0, eI 0 27 z0, eI 0 27 z0, eI 0 27 z0, eI 0 5 z0, eO 4 [mI 0, mI 0, mI 0, mR 11, mR 12, mR 13, mR 14, mI 0], eI 1 506 z0, eL 253 zL, eI 0 220 z0, eI 0 220 z0, eG 8 0, eI 0 27 z0, eI 0 200 z0, eO 6 [mR 1, mR 10, mR 16], eO 0 [mR 1, mR 20, mR 21, mR 22], eL 27 zL, eL 27 zL, eI 0 27 z0, eO 7 [mR 1, mR 24, mI 0, mI 0, mI 0], eI 0 4096 z0, eO 3 [mR 26, mI 0, mI 0, mR 1, mR 10, mR 17, mI 0, mI 0, mI 0, mI 0, mI 0, mI 0], eO 2 [mI 0, mR 27, mR 28, mR 29, mR 30], eI 0 200 z0, eI 0 200 z0, eI 0 200 z0, eI 0 200 z0, eO 8 [mR 10, mR 18, mR 15, mR 32, mI 0], eG 16 8], M, 24, (fun q => match Nat.blt q 8 with | true => R q | false => fun _ => 0))
abbrev e_X8_init : NE := (fiX8, [], ltX8, [], [1], true, 0, (17, 3536), [], [], [], true)
set_option maxHeartbeats 4000000 in
theorem s_X8_init : mm_Spec e_X8_init kX8_init 4 T_X8_init := by
  rintro N X K av h hK ⟨M, R, rfl, rfl, h2⟩
  refine ⟨rfl, hK [] _ _ _ _ _ _ ?_⟩
  exact h2
theorem wi_X8_init : mm_Yi yX8_init cX8_init 4 3 := ⟨tb2 (i := 21) rfl rfl, tb1 (i := 9) rfl rfl, ⟨by decide, by decide, by decide +kernel⟩, rfl, tb2 (i := 20) rfl rfl⟩
theorem m_X8_init (l : Launch) : mm_MetI l yX8_init cX8_init 4 1 17 3536 T_X8_init := mm_metI (E := e_X8_init) (cd := kX8_init) s_X8_init (by decide) kX8_init_ok (by decide +kernel) rfl rfl (by decide) (mm_nk_nil) (fun i hi => by rw [show mm_mix kX8_init = [11] by decide +kernel] at hi; rw [List.mem_singleton.mp hi]; exact tb2 (i := 23) rfl rfl) ⟨fiX8_ok, (fun _ h => nomatch h), (fun _ => ⟨rfl, fiX8_ini⟩), (fun _ _ _ h => nomatch h), (fun _ _ h => nomatch h), Or.inr (by decide), (fun i hi => by rw [List.mem_singleton.mp hi]; exact tb2 (i := 22) rfl rfl)⟩ (mm_ci_nil)
def T_X5_init : Tr := fun av h N _ => ∃ (M : List ME) (R : Nat → Int → Int), av = [mR 33] ∧ h = (some 58, [eO 9 [mR 1, mR 10, mR 18, mR 19, mR 23, mR 25, mR 31, mN, mR 15, mR 16, mR 17, mI 0, mI 0], eO 1 [mI 0, mI 0, mI 0, mI 0, mI 0, mR 2, mR 3, mR 4, mR 5, mR 6, mR 7, mR 8, mR 9], eI 0 729 z0, eI 0 27 z0, eI 0 27 z0, eI 0 729 z0, eI 0 27 z0, eI 0 27 z0, eI 0 27 z0, eI 0 5 z0, eO 4 [mI 0, mI 0, mI 0, mR 11, mR 12, mR 13, mR 14, mI 0], eI 1 506 z0, eL 253 zL, eI 0 220 z0, eI 0 220 z0, eG 8 0, eI 0 27 z0, eI 0 200 z0, eO 6 [mR 1, mR 10, mR 16], eO 0 [mR 1, mR 20, mR 21, mR 22], eL 27 zL, eL 27 zL, eI 0 27 z0, eO 7 [mR 1, mR 24, mI 0, mI 0, mI 0], eI 0 4096 z0, eO 3 [mR 26, mI 0, mI 0, mR 1, mR 10, mR 17, mI 0, mI 0, mI 0, mI 0, mI 0, mI 0], eO 2 [mI 0, mR 27, mR 28, mR 29, mR 30], eI 0 200 z0, eI 0 200 z0, eI 0 200 z0, eI 0 200 z0, eO 8 [mR 10, mR 18, mR 15, mR 32, mI 0], eG 16 8, eO 5 [mN, mI 0]], M, 24, R) ∧ N none (some 59, [eO 9 [mR 1, mR 10, mR 18, mR 19, mR 23, mR 25, mR 31, mN, mR 15, mR 16, mR 17, mI 0, mI 0], eO 1 [mI 0, mI 0, mI 0, mI 0, mI 0, mR 2, mR 3, mR 4, mR 5, mR 6, mR 7, mR 8, mR 9], eI 0 729 z0, eI 0 27 z0, eI 0 27 z0, eI 0 729 z0, eI 0 27 z0, eI 0 27 z0, eI 0 27 z0, eI 0 5 z0, eO 4 [mI 0, mI 0, mI 0, mR 11, mR 12, mR 13, mR 14, mI 0], eI 1 506 z0, eL 253 zL, eI 0 220 z0, eI 0 220 z0, eG 8 0, eI 0 27 z0, eI 0 200 z0, eO 6 [mR 1, mR 10, mR 16], eO 0 [mR 1, mR 20, mR 21, mR 22], eL 27 zL, eL 27 zL, eI 0 27 z0, eO 7 [mR 1, mR 24, mI 0, mI 0, mI 0], eI 0 4096 z0, eO 3 [mR 26, mI 0, mI 0, mR 1, mR 10, mR 17, mI 0, mI 0, mI 0, mI 0, mI 0, mI 0], eO 2 [mI 0, mR 27, mR 28, mR 29, mR 30], eI 0 200 z0, eI 0 200 z0, eI 0 200 z0, eI 0 200 z0, eO 8 [mR 10, mR 18, mR 15, mR 32, mI 0], eG 16 8, eO 5 [mR 34, mI 0], eI 2 2640 z0], M, 24, R)
abbrev e_X5_init : NE := (fiX5, [], ltX5, [], [5], true, 0, (1, 2640), [], [], [], true)
set_option maxHeartbeats 4000000 in
theorem s_X5_init : mm_Spec e_X5_init kX5_init 1 T_X5_init := by
  rintro N X K av h hK ⟨M, R, rfl, rfl, h2⟩
  refine ⟨rfl, hK [] _ _ _ _ _ _ ?_⟩
  exact h2
theorem wi_X5_init : mm_Yi yX5_init cX5_init 1 0 := ⟨tb2 (i := 44) rfl rfl, tb1 (i := 10) rfl rfl, ⟨by decide, by decide, by decide +kernel⟩, rfl, tb2 (i := 43) rfl rfl⟩
theorem m_X5_init (l : Launch) : mm_MetI l yX5_init cX5_init 1 1 1 2640 T_X5_init := mm_metI (E := e_X5_init) (cd := kX5_init) s_X5_init (by decide) kX5_init_ok (by decide +kernel) rfl rfl (by decide) (mm_nk_nil) (fun i hi => by rw [show mm_mix kX5_init = [] by decide +kernel] at hi; cases hi) ⟨fiX5_ok, ltX5_ok, (fun _ => ⟨rfl, fiX5_ini⟩), (fun _ _ _ h => nomatch h), (fun _ _ h => nomatch h), Or.inr (by decide), (fun i hi => by rw [List.mem_singleton.mp hi]; exact tb2 (i := 45) rfl rfl)⟩ (mm_ci_nil)
