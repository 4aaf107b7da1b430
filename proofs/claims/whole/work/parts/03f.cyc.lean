/-! the polynomials of the divisors -/
def cycT : List (Nat × Nat × Nat) := [(1, 1, 151), (2, 1, 153), (3, 2, 2457), (4, 2, 2441), (5, 4, 629145), (6, 2, 2425), (7, 6, 161061273), (8, 4, 624777), (9, 6, 159946889), (10, 4, 620921), (11, 10, 10555311626649), (12, 4, 624521), (13, 12, 2702159776422297), (14, 6, 158955897), (15, 8, 40677906553), (16, 8, 40945354889), (17, 16, 177088743107611695513), (18, 6, 159938697), (19, 18, 45334718235548594051481), (20, 8, 40928642953), (21, 12, 2665867033155705), (22, 10, 10417333696889), (23, 22, 2971056094284912659757898137), (24, 8, 40945289353), (26, 12, 2666837426403705), (30, 8, 41212672153), (34, 16, 174773857576793241977), (38, 18, 44742107539659069946233), (39, 24, 750374860794439105441270569081), (40, 16, 175858678698682583177), (42, 12, 2700913966282905), (46, 22, 2932218759719096807996356985), (52, 24, 755000201847993438608671999881), (55, 40, 13841639730240372734519391232290477144187998865529), (57, 36, 211211746466376480566867504482136737817532537), (60, 16, 175931016659578947977), (68, 32, 3242701175410530582046829981482084829065), (78, 24, 760239696070484446719462832281), (110, 40, 14024324647313585780441561464861042647155078629529), (114, 36, 213988450745955810659360957696727655658256537), (120, 32, 3244030423609804010900866481167991933065), (136, 64, 1103882817242309153284335455901023977610090141253356386663464036929107810289801), (156, 48, 59866222763734312430782359450837127786203409404101055252873), (171, 108, 105728429984053593002372137205136992999899305544536833670027812565416623115777603628296471714244225214891135752861943493099843516553), (253, 220, 76345664295919663856761567163691946916677869719727444406218610735425509356730130324944482936339195816929544584660269035752860979420966446483862816051802259335663701368307703003655924087409351265657446480858124880698567488911389990928824931441194234948512288965429369), (272, 128, 127821102262331010466349884808973845748088543356642420091880687994868697172255049399062375598420483698389673265505514189892881733813385745254183203003467913), (342, 108, 105733845354227141484133888868382647207207809687939108445075617421058914236451178740340416203229844305191266446433277443788784572553), (506, 220, 77353306147602679232423982256354373774482717971124567571815855005103084472823978769221559082904054975527024960404238389739223965209784252114346057633813285758122968544300710684101412250076894557453588903350593409249879778370510290116680916058841780750733858793097369)]
def cycD (m : Nat) : Nat := match mm_look cycT m with
  | some (d, _) => d
  | none => 0
def cycN (m : Nat) : Nat := match mm_look cycT m with
  | some (_, c) => c
  | none => 0
def cyc (m j : Nat) : Int := ((cycN m / 2 ^ (4 * j) % 16 : Nat) : Int) - 8
def cycL (m : Nat) : List Int := (List.range (cycD m + 1)).map (cyc m)
def dvs (n : Nat) : List Nat := (List.range (n + 1)).filter (fun m => Nat.blt 0 m && Nat.beq (n % m) 0)
/-- products by lists: a head and a tail -/
def addP : List Int → List Int → List Int
  | [], b => b
  | a, [] => a
  | x :: a, y :: b => (x + y) :: addP a b
def mulP : List Int → List Int → List Int
  | [], _ => []
  | x :: a, b => addP (b.map (fun y => x * y)) (0 :: mulP a b)
/-- the product of the polynomials of a row of numbers -/
def prodP : List Nat → List Int
  | [] => [1]
  | [m] => cycL m
  | m :: r => mulP (cycL m) (prodP r)
def xm1 (m : Nat) : List Int := -1 :: (List.replicate (m - 1) 0 ++ [1])
theorem getD_addP : ∀ (a b : List Int) (e : Nat), (addP a b).getD e 0 = a.getD e 0 + b.getD e 0
  | [], b, e => by simp [addP]
  | x :: a, [], e => by simp [addP]
  | x :: a, y :: b, 0 => by simp [addP]
  | x :: a, y :: b, e + 1 => by
    have h := getD_addP a b e
    simpa [addP] using h
theorem getD_map (x : Int) : ∀ (b : List Int) (e : Nat), (b.map (fun y => x * y)).getD e 0 = x * b.getD e 0
  | [], e => by simp
  | y :: b, 0 => by simp
  | y :: b, e + 1 => by
    have h := getD_map x b e
    simpa using h
/-- a coefficient of a product -/
def cnv (a b : Nat → Int) (e : Nat) : Nat → Int
  | 0 => 0
  | n + 1 => cnv a b e n + (if n ≤ e then a n * b (e - n) else 0)
theorem cnv_shift {a b : Nat → Int} {e : Nat} : ∀ n, cnv a b (e + 1) (n + 1) = a 0 * b (e + 1) + cnv (fun i => a (i + 1)) b e n
  | 0 => by simp [cnv]
  | n + 1 => by
    rw [cnv, cnv_shift n, cnv]
    by_cases q : n ≤ e
    · rw [if_pos (by omega), if_pos q, show e + 1 - (n + 1) = e - n by omega]; omega
    · rw [if_neg (by omega), if_neg q]; omega
theorem getD_mulP : ∀ (a b : List Int) (e : Nat), (mulP a b).getD e 0 = cnv (fun i => a.getD i 0) (fun i => b.getD i 0) e a.length
  | [], b, e => by simp [mulP, cnv]
  | x :: a, b, 0 => by
    rw [mulP, getD_addP, getD_map]
    have h : ∀ n, cnv (fun i => (x :: a).getD i 0) (fun i => b.getD i 0) 0 (n + 1) = x * b.getD 0 0 := by
      intro n
      induction n with
      | zero => simp [cnv]
      | succ n ih => rw [cnv, ih, if_neg (by omega)]; simp
    rw [List.length_cons, h]
    simp
  | x :: a, b, e + 1 => by
    rw [mulP, getD_addP, getD_map, List.length_cons, cnv_shift]
    have h := getD_mulP a b e
    simp at h ⊢
    exact h
/-- at one large number -/
def cB : Int := 340282366920938463463374607431768211456
def valP : List Int → Int
  | [] => 0
  | x :: a => x + cB * valP a
theorem val_add : ∀ a b : List Int, valP (addP a b) = valP a + valP b
  | [], b => by simp [addP, valP]
  | x :: a, [] => by simp [addP, valP]
  | x :: a, y :: b => by
    simp only [addP, valP, val_add a b, Int.mul_add]
    omega
theorem val_map (x : Int) : ∀ b : List Int, valP (b.map (fun y => x * y)) = x * valP b
  | [] => by simp [valP]
  | y :: b => by
    simp only [List.map_cons, valP, val_map x b, Int.mul_add]
    rw [Int.mul_left_comm]
theorem val_mul : ∀ a b : List Int, valP (mulP a b) = valP a * valP b
  | [], b => by simp [mulP, valP]
  | x :: a, b => by
    rw [mulP, val_add, val_map, valP, val_mul a b, valP, Int.add_mul, Int.mul_assoc]
    omega
def bndP (M : Int) (a : List Int) : Prop := ∀ x ∈ a, -M ≤ x ∧ x ≤ M
theorem bnd_add {M1 M2 : Int} (h1 : 0 ≤ M1) (h2 : 0 ≤ M2) : ∀ a b : List Int, bndP M1 a → bndP M2 b → bndP (M1 + M2) (addP a b)
  | [], b, _, hb => fun x hx => by have := hb x hx; omega
  | x :: a, [], ha, _ => fun z hz => by have := ha z hz; omega
  | x :: a, y :: b, ha, hb => fun z hz => by
    rcases List.mem_cons.mp hz with rfl | hz
    · have h3 := ha x List.mem_cons_self
      have h4 := hb y List.mem_cons_self
      omega
    · exact bnd_add h1 h2 a b (fun q hq => ha q (List.mem_cons_of_mem _ hq)) (fun q hq => hb q (List.mem_cons_of_mem _ hq)) z hz
theorem bnd_mul {M1 M2 : Int} (h1 : 0 ≤ M1) (h2 : 0 ≤ M2) : ∀ a b : List Int, bndP M1 a → bndP M2 b → bndP (a.length * (M1 * M2)) (mulP a b)
  | [], b, _, _ => fun x hx => by cases hx
  | x :: a, b, ha, hb => by
    have hp : 0 ≤ M1 * M2 := Int.mul_nonneg h1 h2
    have hx := ha x List.mem_cons_self
    have hmap : bndP (M1 * M2) (b.map (fun y => x * y)) := by
      intro z hz
      obtain ⟨y, hy, rfl⟩ := List.mem_map.mp hz
      have hyb := hb y hy
      have hn : (x * y).natAbs ≤ (M1 * M2).natAbs := by
        rw [Int.natAbs_mul, Int.natAbs_mul]
        exact Nat.mul_le_mul (by omega) (by omega)
      omega
    have ih := bnd_mul h1 h2 a b (fun q hq => ha q (List.mem_cons_of_mem _ hq)) hb
    have ih2 : bndP ((a.length : Int) * (M1 * M2)) (0 :: mulP a b) := by
      intro z hz
      have hl : 0 ≤ (a.length : Int) * (M1 * M2) := Int.mul_nonneg (by omega) hp
      rcases List.mem_cons.mp hz with rfl | hz
      · omega
      · exact ih z hz
    have h := bnd_add hp (Int.mul_nonneg (by omega) hp) _ _ hmap ih2
    have e : M1 * M2 + (a.length : Int) * (M1 * M2) = ((x :: a).length : Int) * (M1 * M2) := by
      rw [List.length_cons]
      push_cast
      rw [Int.add_mul]
      omega
    rw [e] at h
    exact h
theorem val_inj {M : Int} (hM : 2 * M + 2 ≤ cB) : ∀ a b : List Int, bndP M a → bndP M b → valP a = valP b → ∀ e, a.getD e 0 = b.getD e 0
  | [], [], _, _, _, e => rfl
  | [], y :: b, ha, hb, h, e => by
    have hy := hb y List.mem_cons_self
    rw [valP, valP] at h
    have h0 : valP b = 0 ∧ y = 0 := by
      unfold cB at *
      omega
    have ih := val_inj hM [] b ha (fun q hq => hb q (List.mem_cons_of_mem _ hq)) (by rw [h0.1]; rfl)
    cases e with
    | zero => simp [h0.2]
    | succ e => simpa using ih e
  | x :: a, [], ha, hb, h, e => by
    have hx := ha x List.mem_cons_self
    rw [valP, valP] at h
    have h0 : valP a = 0 ∧ x = 0 := by
      unfold cB at *
      omega
    have ih := val_inj hM a [] (fun q hq => ha q (List.mem_cons_of_mem _ hq)) hb (by rw [h0.1]; rfl)
    cases e with
    | zero => simp [h0.2]
    | succ e => simpa using ih e
  | x :: a, y :: b, ha, hb, h, e => by
    have hx := ha x List.mem_cons_self
    have hy := hb y List.mem_cons_self
    rw [valP, valP] at h
    have h0 : valP a = valP b ∧ x = y := by
      unfold cB at *
      omega
    have ih := val_inj hM a b (fun q hq => ha q (List.mem_cons_of_mem _ hq)) (fun q hq => hb q (List.mem_cons_of_mem _ hq)) h0.1
    cases e with
    | zero => simp [h0.2]
    | succ e => simpa using ih e
def prodV : List Nat → Int
  | [] => 1
  | [m] => valP (cycL m)
  | m :: r => valP (cycL m) * prodV r
def prodM : List Nat → Int
  | [] => 1
  | [_] => 8
  | m :: r => ((cycD m + 1 : Nat) : Int) * (8 * prodM r)
theorem prod_val : ∀ l : List Nat, valP (prodP l) = prodV l
  | [] => by simp [prodP, prodV, valP]
  | [m] => rfl
  | m :: m2 :: r => by
    show valP (mulP (cycL m) (prodP (m2 :: r))) = valP (cycL m) * prodV (m2 :: r)
    rw [val_mul, prod_val (m2 :: r)]
theorem cycL_bnd (m : Nat) : bndP 8 (cycL m) := by
  intro x hx
  obtain ⟨j, -, rfl⟩ := List.mem_map.mp hx
  unfold cyc
  have := Nat.mod_lt (cycN m / 2 ^ (4 * j)) (show 0 < 16 by omega)
  omega
theorem prodM_nn : ∀ l : List Nat, 0 ≤ prodM l
  | [] => by simp [prodM]
  | [_] => by simp [prodM]
  | m :: m2 :: r => by
    show 0 ≤ ((cycD m + 1 : Nat) : Int) * (8 * prodM (m2 :: r))
    exact Int.mul_nonneg (by omega) (Int.mul_nonneg (by omega) (prodM_nn (m2 :: r)))
theorem cycL_len (m : Nat) : (cycL m).length = cycD m + 1 := by simp [cycL]
theorem prod_bnd : ∀ l : List Nat, bndP (prodM l) (prodP l)
  | [] => fun x hx => by simp [prodP] at hx; subst hx; simp [prodM]
  | [m] => cycL_bnd m
  | m :: m2 :: r => by
    have h := bnd_mul (by omega) (prodM_nn (m2 :: r)) (cycL m) _ (cycL_bnd m) (prod_bnd (m2 :: r))
    rw [cycL_len] at h
    exact h
def xmV (m : Nat) : Int := -1 + cB ^ m
def cycChk (m : Nat) : Bool := decide (prodV (dvs m) = xmV m) && (decide (2 * prodM (dvs m) + 2 ≤ cB) && (decide (cyc m (cycD m) = 1) && Nat.ble (cycD m) 220))
def cycAll : List Nat := cycT.map (fun q => q.1)
theorem cyc_c : cycAll.all cycChk = true := by decide +kernel
theorem cyc_dv_c : fevery (fun f => (dvs (fN f)).all (fun m => cycAll.contains m) && (Nat.blt (dvs (fN f)).length 64 && (Nat.beq (cycD (fN f)) (fD f) && (List.range (fD f + 1)).all (fun j => decide (cyc (fN f) j = fphi f j))))) = true := by decide +kernel
