/-! the law's own walk: what a stretch of it yields -/
def lawN : Option MV → HP → Prop := fun r _ => r = some (mI 1)
def scr (xs : Nat → Int32) : Int → Int := fun j => (xs j.toNat).toInt
def LwG (s : State) (b : Nat) (g : SG) : Prop := g.2.2.1 = s.heap.size ∧ g.2.2.2 2002 = b ∧ va_K g.1 vwCl (mm_tys g) s ∧ mm_Sd g s s.heap ∧ mm_Dc s ∧ mm_Cst s ∧ mm_AO s
abbrev eLaw (ct : List (Nat × CE)) (nt : List (Nat × Nat × List MV)) (rc rs : Nat) (ro : List (Nat × Nat × (Int → Int))) (rg : Bool) : NE := ([], ct, [], nt, [], false, 2, (rc, rs), ro, [], [], rg)
theorem i32_rng (x : Int32) : mm_rng x.toInt := by
  have h1 := Int32.le_toInt x
  have h2 := Int32.toInt_lt x
  exact ⟨by omega, by omega⟩
set_option maxHeartbeats 4000000 in
theorem law_cl {l : Launch} {p : Program} {e : Env} {s : State} {m : MethodId} {below : List Frame} {meth : Method} {c : Code} {b L : Nat} {xs : Nat → Int32} (hL3 : L ≤ 3072) (C0 : lw_At p s m meth c b L xs) {g : SG} (hG : LwG s b g) {ct : List (Nat × CE)} {nt : List (Nat × Nat × List MV)} {rc rs : Nat} {rg : Bool} {cd : MC} (hdec : ∀ q ∈ cd, decode code q.1 = .ok (q.2.1, q.2.2)) (hcok : mm_codeok cd = true) (hrc : rc ≤ 601024) (hrs : rs ≤ 7293034)
    (hal : mm_noal (eLaw ct nt rc rs [(2002, (L, scr xs))] rg) cd = true ∨ (rc = 601024 ∧ rs = 7293034 ∧ mm_Nok RL nt ∧ mm_mix cd = [])) (hcalls : ∀ (i : Nat) (q : CE), mm_look ct i = some q → mm_CA l RL 60 i q) : mm_Cl (eLaw ct nt rc rs [(2002, (L, scr xs))] rg) cd lawN (fun _ _ => False) (mm_K p l e room_1 s m #[Value.ref b] below meth c (lw_Z below #[Value.ref b] s) g) := by
  obtain ⟨hx, hb, hr, hml, hown, hts0, hX, hbl, hlocks, hgv⟩ := C0
  obtain ⟨g1, g2, hK, hSd, hDc, hCst, hAO⟩ := hG
  have hts : ∀ w ∈ mm_gt, w.before #[Value.ref b] s = true := fun w hw => hts0 w (mm_gt_in hw).1
  have hown : s.vm.findClass RL = some m.cls := hown
  have hB : g.2.2.1 ≤ s.heap.size := by omega
  have C : mm_Ctx p room_1 s m #[Value.ref b] meth c code RL g (eLaw ct nt rc rs [(2002, (L, scr xs))] rg) := by
    refine ⟨hx, hb, hown, hts, hK, hB, (fun hi => nomatch hi), (fun i v hv => nomatch hv), (fun _ _ _ h => nomatch h), (fun i n f hf => ?_), (fun _ _ h => nomatch h), Or.inl rfl, (fun _ h => nomatch h)⟩
    have hf : mm_look [(2002, (L, scr xs))] i = some (n, f) := hf
    unfold mm_look at hf
    split at hf
    · rename_i hi
      have hi := Nat.eq_of_beq_eq_true hi
      cases hf
      subst hi
      refine ⟨by omega, ?_, by rw [g2]; exact hbl, ?_, by omega, fun j hj => i32_rng _⟩
      · rw [g2, show (fun j : Nat => Int32.ofInt (scr xs (j : Int))) = xs from by
          funext j
          show Int32.ofInt ((xs ((j : Int)).toNat).toInt) = xs j
          rw [Int32.ofInt_toInt, Int.toNat_natCast]]
        exact hX
      · show ¬ g.2.2.1 ≤ g.2.2.2 2002
        rw [g2]
        omega
    · cases hf
  have hE : mm_Ends (cd := cd) p l e room_1 s m #[Value.ref b] below meth c (lw_Z below #[Value.ref b] s) code g (eLaw ct nt rc rs [(2002, (L, scr xs))] rg) lawN (fun _ _ => False) := by
    refine ⟨?_, ?_, ?_, ?_⟩
    · intro pc ins r h' cn sn H locs ls hd hk hN hc1 hc2 hH' hS' hok
      have hc1 : cn ≤ rc := hc1
      have hc2 : sn ≤ rs := hc2
      unfold mm_rk at hk
      split at hk
      · exact absurd hk.1 (show ¬ (2 : Nat) = 0 by decide)
      · split at hk
        · rename_i z
          have hz : some (mI z) = some (mI 1) := hN
          cases hz
          refine va_forget (fun q hq => ?_) (W.widen (by omega) (by omega) (lw_ret hx hb hr hlocks hd))
          have := hS'.2.2 q hq
          have : g.2.2.1 ≤ q.base := this
          omega
        · cases hk
      · split at hk
        · exact absurd hk (show ¬ (2 : Nat) = 3 by decide)
        · cases hk
      · split at hk
        · exact absurd hk (show ¬ (2 : Nat) = 4 by decide)
        · cases hk
      · cases hk
    · intro pc ins i n mc ms th ck T' hd hlk av' rest lv h' cn sn N' hkind hlen hwd hcn hsn hT' hk
      have hrc2 : ne_rc (eLaw ct nt rc rs [(2002, (L, scr xs))] rg) ≤ room_1.cells := hrc
      have hrs2 : ne_rs (eLaw ct nt rc rs [(2002, (L, scr xs))] rg) ≤ room_1.slots := hrs
      have f1 : 60 ≤ room_1.frames := by decide
      have f2 : 40 * 60 ≤ room_1.locals := by decide
      rcases hcalls i _ hlk with hcb | hcb | hcb
      · have hth : th = false := hcb.1
        subst hth
        exact mm_call_sound2 C hSd f1 f2 hrc2 hrs2 hcb hd hkind hlen hwd hcn hsn hT' hk
      · have hth : th = false := hcb.1
        subst hth
        exact mm_callL_sound C hSd hDc hCst f1 f2 hrc2 hrs2 hcb hd hkind hlen hwd hcn hsn hT' hk
      · have hth : th = false := hcb.1
        subst hth
        exact mm_callI_sound C hSd hAO f1 f2 hrc2 hrs2 hcb hd hkind hlen hwd hcn hsn hT' hk
    · intro pc ins len hin htt2 hd hl lv st st' h1 h2 cn sn a b2 ha hca hsb hk
      rcases hal with hna | ⟨q1, q2, hNk, hmx⟩
      · have h3 := List.all_eq_true.mp hna _ hin
        simp only [htt2] at h3
        unfold mm_alloc at ha
        split at ha
        · cases h3
        · cases h3
        · cases h3
        · cases ha
      · exact mm_alloc_sound C hNk (by rw [show ne_rc (eLaw ct nt rc rs [(2002, (L, scr xs))] rg) = rc from rfl, q1]; rfl) (by rw [show ne_rs (eLaw ct nt rc rs [(2002, (L, scr xs))] rg) = rs from rfl, q2]; rfl) (by show rs ≤ 60000000; omega) hd hl (fun i hi => by
          subst hi
          have := mm_mix_in hin
          rw [hmx] at this
          cases this) (fun i hi => by
          subst hi
          have := mm_mix_in hin
          rw [hmx] at this
          cases this) ha hca hsb hk
    · intro pc en lv st h' cn sn _ hen _ _ _ hX
      exact hX.elim
  exact mm_cl_sound C hdec hcok hE
/-- what stands between two calls of the law -/
def KF (K : Nat → LV → List MV → HP → Nat → Nat → Prop) : Prop := ∀ (pc : Nat) (l : LV) (st : List MV) (h : HP) (cn sn : Nat), K pc l st (none, h.2) cn sn → K pc l st h cn sn
def KW (K : Nat → LV → List MV → HP → Nat → Nat → Prop) : Prop := ∀ (pc : Nat) (l : LV) (st : List MV) (h : HP) (cn sn cn' sn' : Nat), cn ≤ cn' → sn ≤ sn' → K pc l st h cn' sn' → K pc l st h cn sn
theorem mm_K_forget {p : Program} {l : Launch} {e : Env} {R : Room} {s : State} {m : MethodId} {args : Array Value} {below : List Frame} {meth : Method} {c : Code} {Q : State → Prop} {g : SG} : KF (mm_K p l e R s m args below meth c Q g) := by
  intro pc lv st h cn sn hk H locs ls hH hS hL hs
  obtain ⟨a1, a2, a3, a4, a5, a6, a7⟩ := hH
  exact hk H locs ls ⟨a1, a2, a3, a4, a5, a6, fun t ht => nomatch ht⟩ hS hL hs
theorem mm_K_widen {p : Program} {l : Launch} {e : Env} {R : Room} {s : State} {m : MethodId} {args : Array Value} {below : List Frame} {meth : Method} {c : Code} {Q : State → Prop} {g : SG} : KW (mm_K p l e R s m args below meth c Q g) := by
  intro pc lv st h cn sn cn' sn' h1 h2 hk H locs ls hH hS hL hs
  exact W.widen h1 h2 (hk H locs ls hH hS hL hs)
