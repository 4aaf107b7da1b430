/-! the law: its loop, its beginning -/
def kW_H : MC := [(23, .iload 4, 2), (25, .aload_n 0, 1), (26, .arraylength, 1), (27, .bipush 6, 2), (29, .isub, 1), (30, .if_icmp .gt 1928, 3), (33, .aload_n 0, 1), (34, .iload 4, 2), (36, .iaload, 1), (37, .bipush 31, 2), (39, .iand, 1), (40, .tableswitch 1912 0 27 #[128, 165, 238, 306, 319, 375, 455, 511, 567, 635, 691, 759, 826, 901, 974, 1023, 1127, 1219, 1299, 1379, 1447, 1515, 1583, 1639, 1695, 1751, 1831, 1887], 128), (1952, .iinc 4 6, 3), (1955, .goto (-1932), 3), (1958, .iconst 1, 1), (1959, .ireturn, 1)]
theorem kW_H_ok : ∀ q ∈ kW_H, decode code q.1 = .ok (q.2.1, q.2.2) := by decide +kernel
def kW_I : MC := [(0, .new 8, 3), (3, .dup, 1), (4, .invokespecial 86, 3), (7, .astore_n 1, 1), (8, .new 87, 3), (11, .dup, 1), (12, .invokespecial 89, 3), (15, .astore_n 2, 1), (16, .iconst 1, 1), (17, .newarray .long, 2), (19, .astore_n 3, 1), (20, .iconst 0, 1), (21, .istore 4, 2)]
theorem kW_I_ok : ∀ q ∈ kW_I, decode code q.1 = .ok (q.2.1, q.2.2) := by decide +kernel
abbrev ctW_I : List (Nat × CE) := [(86, (1, 58, 16002, false, (2, 9), T_X9_init)), (89, (1, 28, 67835, false, (2, 10), T_X10_init))]
theorem cW_I (l : Launch) : ∀ (i : Nat) (q : CE), mm_look ctW_I i = some q → mm_CA l RL 60 i q := mm_ca_cons (Or.inr (Or.inr (mm_cis wi_X9_init (Or.inl (tb1 (i := 23) rfl rfl)) (m_X9_init l) (by decide) (by decide) rfl))) (mm_ca_cons (Or.inr (Or.inr (mm_cis wi_X10_init (Or.inl (tb5 (i := 177) rfl rfl)) (m_X10_init l) (by decide) (by decide) rfl))) mm_ca_nil)
theorem nW_I : mm_Nok RL [(8, (9, D9)), (87, (10, D10))] := mm_nk_cons rfl vwCl_9 (tb1 (i := 21) rfl rfl) (tb1 (i := 22) rfl rfl) (tb1 (i := 1) rfl rfl) (mm_nk_cons rfl vwCl_10 (tb5 (i := 175) rfl rfl) (tb5 (i := 176) rfl rfl) (tb1 (i := 12) rfl rfl) mm_nk_nil)
theorem mm_new_step {E : NE} {cd : MC} {cuts : List Nat} {K : Nat → LV → List MV → HP → Nat → Nat → Prop} {N : Option MV → HP → Prop} {X : String → HP → Prop} {pc i : Nat} {tl : MC} {ci t k : Nat} {fs : List MV} {h h' : HP} {l : LV} {st : List MV} {cn sn : Nat} (hat : mm_at cd pc = (pc, .new i, 3) :: tl) (htt : ne_tt E = []) (hcut : mm_mem (pc + 3) cuts = true) (hnt : mm_look (ne_nt E) i = some (ci, fs)) (ht : h.1 = some t) (hp : mm_push (!(Nat.beq ci 10)) h t (eO ci fs) = some (k, h')) (h1 : cn + 1 ≤ ne_rc E) (h2 : sn + fs.length ≤ ne_rs E) {pc2 cn2 sn2 : Nat} (e1 : pc2 = pc + 3) (e2 : cn2 = cn + 1) (e3 : sn2 = sn + fs.length) (hk : K pc2 l (mR k :: st) h' cn2 sn2) : mm_run E cd cuts K N X pc l st h cn sn := by
  subst e1 e2 e3
  have hal : mm_alloc E (.new i) st h = some (mR k :: st, h', 1, fs.length) := by
    show (match mm_look (ne_nt E) i with
    | some (ci, fs) => match h.1 with
      | some t => match mm_push (!(Nat.beq ci 10)) h t (eO ci fs) with
        | some (k, h') => some (mR k :: st, h', 1, fs.length)
        | none => none
      | none => none
    | none => none) = _
    simp only [hnt, ht, hp]
  unfold mm_run
  rw [hat]
  show (match Nat.beq pc pc with | true => mm_wp E cd cuts K N X (99999 + 1) ((pc, .new i, 3) :: tl) l st h cn sn | false => False)
  rw [Nat.beq_refl]
  show (match mm_look (ne_tt E) pc with
      | some en => match Nat.ble (mm_wd st) 8 && (Nat.ble (cn + 1) (ne_rc E) && Nat.ble (sn + 6) (ne_rs E)) with
        | true => X en (none, h.2)
        | false => False
      | none => (match mm_alloc E (.new i) st h with
        | some (st', h', a, b) => match Nat.ble (cn + a) (ne_rc E) && Nat.ble (sn + b) (ne_rs E) with
          | true => mm_nx cuts K (mm_wp E cd cuts K N X 99999) (pc + 3) tl l st' h' (cn + a) (sn + b)
          | false => False
        | none => False))
  rw [htt, hal]
  show (match Nat.ble (cn + 1) (ne_rc E) && Nat.ble (sn + fs.length) (ne_rs E) with
          | true => mm_nx cuts K (mm_wp E cd cuts K N X 99999) (pc + 3) tl l (mR k :: st) h' (cn + 1) (sn + fs.length)
          | false => False)
  rw [Nat.ble_eq_true_of_le h1, Nat.ble_eq_true_of_le h2]
  show mm_nx cuts K (mm_wp E cd cuts K N X 99999) (pc + 3) tl l (mR k :: st) h' (cn + 1) (sn + fs.length)
  unfold mm_nx
  rw [hcut]
  exact hk
section LP
variable {l : Launch} {p : Program} {e : Env} {s : State} {m : MethodId} {below : List Frame} {meth : Method} {c : Code} {b L : Nat} {xs : Nat → Int32} {g : SG}
abbrev KL (p : Program) (l : Launch) (e : Env) (s : State) (m : MethodId) (b : Nat) (below : List Frame) (meth : Method) (c : Code) (g : SG) : Nat → LV → List MV → HP → Nat → Nat → Prop := mm_K p l e room_1 s m #[Value.ref b] below meth c (lw_Z below #[Value.ref b] s) g
abbrev shK (K : Nat → LV → List MV → HP → Nat → Nat → Prop) (c0 s0 : Nat) : Nat → LV → List MV → HP → Nat → Nat → Prop := fun pc l st h c s => K pc l st h (c0 + c) (s0 + s)
theorem law_sh (hL3 : L ≤ 3072) (C0 : lw_At p s m meth c b L xs) (hG : LwG s b g) {ct : List (Nat × CE)} {rc rs c0 s0 : Nat} {cd : MC} (hdec : ∀ q ∈ cd, decode code q.1 = .ok (q.2.1, q.2.2)) (hcok : mm_codeok cd = true) (hrc : c0 + rc ≤ 601024) (hrs : s0 + rs ≤ 7293034) (hna : mm_noal (eLaw [] [] 0 0 [] true) cd = true) (hcalls : ∀ (i : Nat) (q : CE), mm_look ct i = some q → mm_CA l RL 60 i q) : mm_Cl (eLaw ct [] rc rs [(2002, (L, scr xs))] true) cd lawN (fun _ _ => False) (shK (KL p l e s m b below meth c g) c0 s0) :=
  mm_Cl_sh (E := eLaw ct [] rc rs [(2002, (L, scr xs))] true) rfl (law_cl (rc := c0 + rc) (rs := s0 + rs) hL3 C0 hG hdec hcok hrc hrs (Or.inl hna) hcalls)
set_option maxHeartbeats 16000000 in
theorem law_loop (hl : l.stackTraces = false) (hL3 : L ≤ 3072) (C0 : lw_At p s m meth c b L xs) (hG : LwG s b g) : ∀ (n i c0 s0 : Nat), L ≤ i + 6 * n + 5 → i ≤ 6000 → c0 + 12 * n ≤ 601000 → s0 + 72 * n ≤ 7290000 → ∀ (a : AS) (s1 : RS) (o : Int → Int64) (c1 : CS) (o5 o6 o7 : Option MV), CR a c1 → RR a s1 → KL p l e s m b below meth c g 23 [some (mR 2002), some (mR 0), some (mR 1000), some (mR 1029), some (mI (i : Int)), o5, o6, o7] [] (hL s1 o c1) c0 s0 := by
  intro n
  induction n with
  | zero =>
    intro i c0 s0 hi hi6 hc0 hs0 a s1 o c1 o5 o6 o7 hc hr
    have hKH := law_sh (l := l) (e := e) (below := below) (ct := []) (rc := 0) (rs := 0) (c0 := c0) (s0 := s0) hL3 C0 hG kW_H_ok (by decide +kernel) (by omega) (by omega) (by decide +kernel) mm_ca_nil
    have h0 : shK (KL p l e s m b below meth c g) c0 s0 23 [some (mR 2002), some (mR 0), some (mR 1000), some (mR 1029), some (mI (i : Int)), o5, o6, o7] [] (hL s1 o c1) 0 0 := by
      refine hKH [] _ _ _ _ _ _ ?_
      refine And.intro (rng_of (by omega) (by omega)) ?_
      refine And.intro (fun _ => ?_) (fun q => absurd q (by omega))
      exact And.intro (Or.inr rfl) rfl
    exact h0
  | succ n ih =>
    intro i c0 s0 hi hi6 hc0 hs0 a s1 o c1 o5 o6 o7 hc hr
    have hKH := law_sh (l := l) (e := e) (below := below) (ct := []) (rc := 0) (rs := 0) (c0 := c0) (s0 := s0) hL3 C0 hG kW_H_ok (by decide +kernel) (by omega) (by omega) (by decide +kernel) mm_ca_nil
    have next : i + 6 ≤ L → ∀ rc rs : Nat, rc ≤ 12 → rs ≤ 72 → ∀ (a' : AS) (s' : RS) (o' : Int → Int64) (c' : CS) (o5 o6 o7 : Option MV), CR a' c' → RR a' s' → shK (KL p l e s m b below meth c g) c0 s0 1952 [some (mR 2002), some (mR 0), some (mR 1000), some (mR 1029), some (mI (i : Int)), o5, o6, o7] [] (hL s' o' c') rc rs := by
      intro hiL rc rs h1 h2 a' s' o' c' o5 o6 o7 hc' hr'
      refine hKH [23] _ _ _ _ _ _ ?_
      refine And.intro (rng_of (by omega) (by omega)) ?_
      exact ih (i + 6) (c0 + rc) (s0 + rs) (by omega) (by omega) (by omega) (by omega) a' s' o' c' o5 o6 o7 hc' hr'
    have h0 : shK (KL p l e s m b below meth c g) c0 s0 23 [some (mR 2002), some (mR 0), some (mR 1000), some (mR 1029), some (mI (i : Int)), o5, o6, o7] [] (hL s1 o c1) 0 0 := by
      refine hKH [168, 205, 278, 346, 359, 415, 495, 551, 607, 675, 731, 799, 866, 941, 1014, 1063, 1167, 1259, 1339, 1419, 1487, 1555, 1623, 1679, 1735, 1791, 1871, 1927, 1952] _ _ _ _ _ _ ?_
      refine And.intro (rng_of (by omega) (by omega)) ?_
      refine And.intro (fun _ => And.intro (Or.inr rfl) rfl) (fun q => ?_)
      have hiL : i + 6 ≤ L := by omega
      refine And.intro ⟨by omega, by omega⟩ ?_
      refine ⟨fun _ => next hiL 0 0 (by omega) (by omega) a s1 o c1 o5 o6 o7 hc hr, fun _ => ?_, fun _ => ?_, fun _ => ?_, fun _ => ?_, fun _ => ?_, fun _ => ?_, fun _ => ?_, fun _ => ?_, fun _ => ?_, fun _ => ?_, fun _ => ?_, fun _ => ?_, fun _ => ?_, fun _ => ?_, fun _ => ?_, fun _ => ?_, fun _ => ?_, fun _ => ?_, fun _ => ?_, fun _ => ?_, fun _ => ?_, fun _ => ?_, fun _ => ?_, fun _ => ?_, fun _ => ?_, fun _ => ?_, fun _ => ?_, fun _ => ?_, trivial⟩
      · exact lc_0 hL3 hiL (law_sh (l := l) (e := e) (below := below) (ct := ctW_0) (rc := 0) (rs := 0) (c0 := c0) (s0 := s0) hL3 C0 hG kW_0_ok (by decide +kernel) (by omega) (by omega) (by decide +kernel) (cW_0 l hl)) hc hr (next hiL 0 0 (by omega) (by omega)) o5 o6 o7
      · exact lc_1 hL3 hiL (law_sh (l := l) (e := e) (below := below) (ct := ctW_1) (rc := 0) (rs := 0) (c0 := c0) (s0 := s0) hL3 C0 hG kW_1_ok (by decide +kernel) (by omega) (by omega) (by decide +kernel) (cW_1 l hl)) hc hr (next hiL 0 0 (by omega) (by omega)) o5 o6 o7
      · exact lc_2 hL3 hiL (law_sh (l := l) (e := e) (below := below) (ct := ctW_2) (rc := 1) (rs := 6) (c0 := c0) (s0 := s0) hL3 C0 hG kW_2_ok (by decide +kernel) (by omega) (by omega) (by decide +kernel) (cW_2 l hl)) hc hr (next hiL 1 6 (by omega) (by omega)) o5 o6 o7
      · exact lc_3 hL3 hiL (law_sh (l := l) (e := e) (below := below) (ct := ctW_3) (rc := 0) (rs := 0) (c0 := c0) (s0 := s0) hL3 C0 hG kW_3_ok (by decide +kernel) (by omega) (by omega) (by decide +kernel) (cW_3 l hl)) hc hr (next hiL 0 0 (by omega) (by omega)) o5 o6 o7
      · exact lc_4 hL3 hiL (law_sh (l := l) (e := e) (below := below) (ct := ctW_4) (rc := 1) (rs := 6) (c0 := c0) (s0 := s0) hL3 C0 hG kW_4_ok (by decide +kernel) (by omega) (by omega) (by decide +kernel) (cW_4 l hl)) hc hr (next hiL 1 6 (by omega) (by omega)) o5 o6 o7
      · exact lc_5 hL3 hiL (law_sh (l := l) (e := e) (below := below) (ct := ctW_5) (rc := 3) (rs := 18) (c0 := c0) (s0 := s0) hL3 C0 hG kW_5_ok (by decide +kernel) (by omega) (by omega) (by decide +kernel) (cW_5 l hl)) hc hr (next hiL 3 18 (by omega) (by omega)) o5 o6 o7
      · exact lc_6 hL3 hiL (law_sh (l := l) (e := e) (below := below) (ct := ctW_6) (rc := 2) (rs := 12) (c0 := c0) (s0 := s0) hL3 C0 hG kW_6_ok (by decide +kernel) (by omega) (by omega) (by decide +kernel) (cW_6 l hl)) hc hr (next hiL 2 12 (by omega) (by omega)) o5 o6 o7
      · exact lc_7 hL3 hiL (law_sh (l := l) (e := e) (below := below) (ct := ctW_7) (rc := 1) (rs := 6) (c0 := c0) (s0 := s0) hL3 C0 hG kW_7_ok (by decide +kernel) (by omega) (by omega) (by decide +kernel) (cW_7 l hl)) hc hr (next hiL 1 6 (by omega) (by omega)) o5 o6 o7
      · exact lc_8 hL3 hiL (law_sh (l := l) (e := e) (below := below) (ct := ctW_8) (rc := 2) (rs := 12) (c0 := c0) (s0 := s0) hL3 C0 hG kW_8_ok (by decide +kernel) (by omega) (by omega) (by decide +kernel) (cW_8 l hl)) hc hr (next hiL 2 12 (by omega) (by omega)) o5 o6 o7
      · exact lc_9 hL3 hiL (law_sh (l := l) (e := e) (below := below) (ct := ctW_9) (rc := 1) (rs := 6) (c0 := c0) (s0 := s0) hL3 C0 hG kW_9_ok (by decide +kernel) (by omega) (by omega) (by decide +kernel) (cW_9 l hl)) hc hr (next hiL 1 6 (by omega) (by omega)) o5 o6 o7
      · exact lc_10 hL3 hiL (law_sh (l := l) (e := e) (below := below) (ct := ctW_10) (rc := 2) (rs := 12) (c0 := c0) (s0 := s0) hL3 C0 hG kW_10_ok (by decide +kernel) (by omega) (by omega) (by decide +kernel) (cW_10 l hl)) hc hr (next hiL 2 12 (by omega) (by omega)) o5 o6 o7
      · exact lc_11 hL3 hiL (law_sh (l := l) (e := e) (below := below) (ct := ctW_11) (rc := 2) (rs := 12) (c0 := c0) (s0 := s0) hL3 C0 hG kW_11_ok (by decide +kernel) (by omega) (by omega) (by decide +kernel) (cW_11 l hl)) hc hr (next hiL 2 12 (by omega) (by omega)) o5 o6 o7
      · exact lc_12 hL3 hiL (law_sh (l := l) (e := e) (below := below) (ct := ctW_12) (rc := 2) (rs := 12) (c0 := c0) (s0 := s0) hL3 C0 hG kW_12_ok (by decide +kernel) (by omega) (by omega) (by decide +kernel) (cW_12 l hl)) hc hr (next hiL 2 12 (by omega) (by omega)) o5 o6 o7
      · exact lc_13 hL3 hiL (law_sh (l := l) (e := e) (below := below) (ct := ctW_13) (rc := 0) (rs := 0) (c0 := c0) (s0 := s0) hL3 C0 hG kW_13_ok (by decide +kernel) (by omega) (by omega) (by decide +kernel) (cW_13 l hl)) hc hr (next hiL 0 0 (by omega) (by omega)) o5 o6 o7
      · exact lc_14 hL3 hiL (law_sh (l := l) (e := e) (below := below) (ct := ctW_14) (rc := 0) (rs := 0) (c0 := c0) (s0 := s0) hL3 C0 hG kW_14_ok (by decide +kernel) (by omega) (by omega) (by decide +kernel) (cW_14 l hl)) hc hr (next hiL 0 0 (by omega) (by omega)) o5 o6 o7
      · exact lc_15 hL3 hiL (law_sh (l := l) (e := e) (below := below) (ct := ctW_15) (rc := 5) (rs := 30) (c0 := c0) (s0 := s0) hL3 C0 hG kW_15_ok (by decide +kernel) (by omega) (by omega) (by decide +kernel) (cW_15 l hl)) hc hr (next hiL 5 30 (by omega) (by omega)) o5 o6 o7
      · exact lc_16 hL3 hiL (law_sh (l := l) (e := e) (below := below) (ct := ctW_16) (rc := 4) (rs := 24) (c0 := c0) (s0 := s0) hL3 C0 hG kW_16_ok (by decide +kernel) (by omega) (by omega) (by decide +kernel) (cW_16 l hl)) hc hr (next hiL 4 24 (by omega) (by omega)) o5 o6 o7
      · exact lc_17 hL3 hiL (law_sh (l := l) (e := e) (below := below) (ct := ctW_17) (rc := 3) (rs := 18) (c0 := c0) (s0 := s0) hL3 C0 hG kW_17_ok (by decide +kernel) (by omega) (by omega) (by decide +kernel) (cW_17 l hl)) hc hr (next hiL 3 18 (by omega) (by omega)) o5 o6 o7
      · exact lc_18 hL3 hiL (law_sh (l := l) (e := e) (below := below) (ct := ctW_18) (rc := 1) (rs := 6) (c0 := c0) (s0 := s0) hL3 C0 hG kW_18_ok (by decide +kernel) (by omega) (by omega) (by decide +kernel) (cW_18 l hl)) hc hr (next hiL 1 6 (by omega) (by omega)) o5 o6 o7
      · exact lc_19 hL3 hiL (law_sh (l := l) (e := e) (below := below) (ct := ctW_19) (rc := 2) (rs := 12) (c0 := c0) (s0 := s0) hL3 C0 hG kW_19_ok (by decide +kernel) (by omega) (by omega) (by decide +kernel) (cW_19 l hl)) hc hr (next hiL 2 12 (by omega) (by omega)) o5 o6 o7
      · exact lc_20 hL3 hiL (law_sh (l := l) (e := e) (below := below) (ct := ctW_20) (rc := 2) (rs := 12) (c0 := c0) (s0 := s0) hL3 C0 hG kW_20_ok (by decide +kernel) (by omega) (by omega) (by decide +kernel) (cW_20 l hl)) hc hr (next hiL 2 12 (by omega) (by omega)) o5 o6 o7
      · exact lc_21 hL3 hiL (law_sh (l := l) (e := e) (below := below) (ct := ctW_21) (rc := 2) (rs := 12) (c0 := c0) (s0 := s0) hL3 C0 hG kW_21_ok (by decide +kernel) (by omega) (by omega) (by decide +kernel) (cW_21 l hl)) hc hr (next hiL 2 12 (by omega) (by omega)) o5 o6 o7
      · exact lc_22 hL3 hiL (law_sh (l := l) (e := e) (below := below) (ct := ctW_22) (rc := 1) (rs := 6) (c0 := c0) (s0 := s0) hL3 C0 hG kW_22_ok (by decide +kernel) (by omega) (by omega) (by decide +kernel) (cW_22 l hl)) hc hr (next hiL 1 6 (by omega) (by omega)) o5 o6 o7
      · exact lc_23 hL3 hiL (law_sh (l := l) (e := e) (below := below) (ct := ctW_23) (rc := 1) (rs := 6) (c0 := c0) (s0 := s0) hL3 C0 hG kW_23_ok (by decide +kernel) (by omega) (by omega) (by decide +kernel) (cW_23 l hl)) hc hr (next hiL 1 6 (by omega) (by omega)) o5 o6 o7
      · exact lc_24 hL3 hiL (law_sh (l := l) (e := e) (below := below) (ct := ctW_24) (rc := 1) (rs := 6) (c0 := c0) (s0 := s0) hL3 C0 hG kW_24_ok (by decide +kernel) (by omega) (by omega) (by decide +kernel) (cW_24 l hl)) hc hr (next hiL 1 6 (by omega) (by omega)) o5 o6 o7
      · exact lc_25 hL3 hiL (law_sh (l := l) (e := e) (below := below) (ct := ctW_25) (rc := 1) (rs := 6) (c0 := c0) (s0 := s0) hL3 C0 hG kW_25_ok (by decide +kernel) (by omega) (by omega) (by decide +kernel) (cW_25 l hl)) hc hr (next hiL 1 6 (by omega) (by omega)) o5 o6 o7
      · exact lc_26 hL3 hiL (law_sh (l := l) (e := e) (below := below) (ct := ctW_26) (rc := 1) (rs := 6) (c0 := c0) (s0 := s0) hL3 C0 hG kW_26_ok (by decide +kernel) (by omega) (by omega) (by decide +kernel) (cW_26 l hl)) hc hr (next hiL 1 6 (by omega) (by omega)) o5 o6 o7
      · exact lc_27 hL3 hiL (law_sh (l := l) (e := e) (below := below) (ct := ctW_27) (rc := 0) (rs := 0) (c0 := c0) (s0 := s0) hL3 C0 hG kW_27_ok (by decide +kernel) (by omega) (by omega) (by decide +kernel) (cW_27 l hl)) hc hr (next hiL 0 0 (by omega) (by omega)) o5 o6 o7
    exact h0
set_option maxHeartbeats 16000000 in
set_option maxRecDepth 10000 in
theorem law_run (hl : l.stackTraces = false) (hL3 : L ≤ 3072) (C0 : lw_At p s m meth c b L xs) (hG : LwG s b g) : KL p l e s m b below meth c g 0 (mm_entry 8 [mR 2002]) [] (some 0, [], [], 0, fun _ _ => 0) 0 0 := by
  have hKI := law_cl (l := l) (e := e) (below := below) (ct := ctW_I) (nt := [(8, (9, D9)), (87, (10, D10))]) (rc := 601024) (rs := 7293034) (rg := false) hL3 C0 hG kW_I_ok (by decide +kernel) (by omega) (by omega) (Or.inr ⟨rfl, rfl, nW_I, by decide +kernel⟩) (cW_I l)
  have k23 : ∀ (c1 : CS) (s1 : RS), CR a0 c1 → RR a0 s1 → KL p l e s m b below meth c g 23 [some (mR 2002), some (mR 0), some (mR 1000), some (mR 1029), some (mI 0), none, none, none] [] (some 89, CH c1, RH s1 [] ++ [eL 1 (fun _ => 0)], 24, c1.2.2.2.1) 89 83904 := fun c1 s1 hc hr => by
    refine mm_K_forget _ _ _ _ _ _ ?_
    exact law_loop hl hL3 C0 hG 512 0 89 83904 (by omega) (by omega) (by omega) (by omega) a0 s1 (fun _ => 0) c1 none none none hc hr
  have k19 : ∀ (c1 : CS) (s1 : RS), CR a0 c1 → RR a0 s1 → KL p l e s m b below meth c g 19 [some (mR 2002), some (mR 0), some (mR 1000), none, none, none, none, none] [mR 1029] (some 89, CH c1, RH s1 [] ++ [eL 1 (fun _ => 0)], 24, c1.2.2.2.1) 89 83904 := fun c1 s1 hc hr => by
    refine hKI [23] _ _ _ _ _ _ ?_
    exact k23 c1 s1 hc hr
  have k17 : ∀ (c1 : CS) (s1 : RS), CR a0 c1 → RR a0 s1 → KL p l e s m b below meth c g 17 [some (mR 2002), some (mR 0), some (mR 1000), none, none, none, none, none] [mI 1] (hR (some 88, CH c1, [], 24, c1.2.2.2.1) s1) 88 83903 := fun c1 s1 hc hr => hKI [19] _ _ _ _ _ _ (mm_newa_step (n := 1) (t := 88) (cn := 88) (sn := 83903) (by decide) (by rfl) (by rfl) (by rfl) (Or.inl ⟨rfl, rfl⟩) (by rfl) (by exact mm_push10 (j := 29) rfl rfl rfl) (by exact Nat.le_of_ble_eq_true rfl) (by exact Nat.le_of_ble_eq_true rfl) (by rfl) (by rfl) (by rfl) (k19 c1 s1 hc hr))
  have k11 : ∀ c1 : CS, CR a0 c1 → KL p l e s m b below meth c g 11 [some (mR 2002), some (mR 0), none, none, none, none, none, none] [mR 1000] (some 60, CH c1, [eO 10 D10], 24, c1.2.2.2.1) 60 16068 := fun c1 hc => by
    refine hKI [17] _ _ _ _ _ _ ?_
    refine ⟨CH c1, 24, c1.2.2.2.1, rfl, rfl, fun s1 hr => ?_⟩
    exact k17 c1 s1 hc hr
  have k8 : ∀ c1 : CS, CR a0 c1 → KL p l e s m b below meth c g 8 [some (mR 2002), some (mR 0), none, none, none, none, none, none] [] (hC (some 59, []) c1) 59 16015 := fun c1 hc => hKI [11] _ _ _ _ _ _ (mm_new_step (i := 87) (t := 59) (ci := 10) (fs := D10) (cn := 59) (sn := 16015) (by rfl) (by rfl) (by rfl) (by rfl) (by rfl) (by exact mm_push10 (j := 0) rfl rfl rfl) (by exact Nat.le_of_ble_eq_true rfl) (by exact Nat.le_of_ble_eq_true rfl) (by rfl) (by rfl) (by rfl) (k11 c1 hc))
  have k3 : KL p l e s m b below meth c g 3 [some (mR 2002), none, none, none, none, none, none, none] [mR 0] (some 1, [eO 9 D9], [], 0, fun _ _ => 0) 1 13 := by
    refine hKI [8] _ _ _ _ _ _ ?_
    refine ⟨[], fun _ _ => 0, rfl, rfl, fun c1 hc => ?_⟩
    exact k8 c1 hc
  exact hKI [3] _ _ _ _ _ _ (mm_new_step (i := 8) (t := 0) (k := 0) (ci := 9) (fs := D9) (cn := 0) (sn := 0) (by rfl) (by rfl) (by rfl) (by rfl) (by rfl) (by rfl) (by exact Nat.le_of_ble_eq_true rfl) (by exact Nat.le_of_ble_eq_true rfl) (by rfl) (by rfl) (by rfl) k3)
end LP
