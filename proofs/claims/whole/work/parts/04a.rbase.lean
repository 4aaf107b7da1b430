/-! the reference's state: numbers by field, rows of ints, rows of longs -/
abbrev RS : Type := (Nat → Int) × (Nat → Int → Int) × (Nat → Int → Int64)
def fu {α : Type} (f : Nat → α) (k : Nat) (v : α) : Nat → α := fun i => match Nat.beq i k with
  | true => v
  | false => f i
def sI (s : RS) (k : Nat) (v : Int) : RS := (fu s.1 k v, s.2)
def sA (s : RS) (k : Nat) (v : Int → Int) : RS := (s.1, fu s.2.1 k v, s.2.2)
def sL (s : RS) (k : Nat) (v : Int → Int64) : RS := (s.1, s.2.1, fu s.2.2 k v)
def RO (s : RS) : List MV := [mR 1001, mI (s.1 1), mI (s.1 2), mI (s.1 3), mI (s.1 4), mI (s.1 5), mI (s.1 6), mR 1002, mR 1003, mR 1004, mR 1005, mR 1006, mR 1007, mR 1008, mI (s.1 14), mI (s.1 15), mR 1009, mR 1010, mR 1011, mR 1012, mR 1013, mR 1014, mR 1015, mI (s.1 23), mR 1016, mR 1017, mR 1018, mR 1019, mI (s.1 28), mI (s.1 29), mI (s.1 30), mI (s.1 31), mI (s.1 32), mI (s.1 33), mI (s.1 34), mI (s.1 35), mI (s.1 36), mI (s.1 37), mI (s.1 38), mI (s.1 39), mI (s.1 40), mR 1020, mR 1021, mR 1022, mR 1023, mR 1024, mR 1025, mI (s.1 47), mI (s.1 48), mR 1026, mR 1027, mR 1028, mI (s.1 52)]
def RH (s : RS) (tl : List ME) : List ME := eO 10 (RO s) :: eI 0 9 (s.2.1 0) :: eI 0 729 (s.2.1 7) :: eI 0 729 (s.2.1 8) :: eI 0 27 (s.2.1 9) :: eI 0 27 (s.2.1 10) :: eI 0 27 (s.2.1 11) :: eI 0 27 (s.2.1 12) :: eI 0 16 (s.2.1 13) :: eL 512 (s.2.2 16) :: eL 1024 (s.2.2 17) :: eL 1024 (s.2.2 18) :: eL 512 (s.2.2 19) :: eL 32768 (s.2.2 20) :: eI 0 64 (s.2.1 21) :: eI 0 64 (s.2.1 22) :: eL 8960 (s.2.2 24) :: eL 512 (s.2.2 25) :: eI 0 27 (s.2.1 26) :: eI 0 200 (s.2.1 27) :: eI 0 27 (s.2.1 41) :: eI 0 27 (s.2.1 42) :: eI 0 27 (s.2.1 43) :: eI 0 4096 (s.2.1 44) :: eI 0 4096 (s.2.1 45) :: eI 0 4096 (s.2.1 46) :: eI 0 8 (s.2.1 49) :: eI 0 8 (s.2.1 50) :: eI 0 8192 (s.2.1 51) :: tl
abbrev FW : Type := Option Nat × List ME × List ME × Nat × (Nat → Int → Int)
def hR (w : FW) (s : RS) : HP := (w.1, w.2.1, RH s w.2.2.1, w.2.2.2.1, w.2.2.2.2)

def bi (c : Prop) [Decidable c] : Int := if c then 1 else 0
theorem bi_01 (c : Prop) [Decidable c] : bi c = 0 ∨ bi c = 1 := by unfold bi; split <;> simp
theorem bi_t {c : Prop} [Decidable c] (h : c) : bi c = 1 := if_pos h
theorem bi_f {c : Prop} [Decidable c] (h : ¬ c) : bi c = 0 := if_neg h
theorem bi_ne0 {c : Prop} [Decidable c] : ¬ bi c = 0 ↔ c := by unfold bi; split <;> simp_all
theorem bi_eq0 {c : Prop} [Decidable c] : bi c = 0 ↔ ¬ c := by unfold bi; split <;> simp_all
theorem bi_iff {c d : Prop} [Decidable c] [Decidable d] (h : c ↔ d) : bi c = bi d := by
  unfold bi
  by_cases hd : d
  · rw [if_pos hd, if_pos (h.mpr hd)]
  · rw [if_neg hd, if_neg (fun q => hd (h.mp q))]
theorem rng_of {z : Int} (h1 : -2147483648 ≤ z) (h2 : z ≤ 2147483647) : mm_rng z := ⟨h1, h2⟩
theorem cmp_lt (x y : Int64) : mm_cmp x y < 0 ↔ x.toInt < y.toInt := by
  unfold mm_cmp lg_cmp
  simp only [gt_iff_lt, Int64.lt_iff_toInt_lt, ← Int64.toInt_inj]
  repeat' split
  all_goals (simp; try omega)
theorem cmp_le (x y : Int64) : mm_cmp x y ≤ 0 ↔ x.toInt ≤ y.toInt := by
  unfold mm_cmp lg_cmp
  simp only [gt_iff_lt, Int64.lt_iff_toInt_lt, ← Int64.toInt_inj]
  repeat' split
  all_goals (simp; try omega)
theorem cmp_eq (x y : Int64) : mm_cmp x y = 0 ↔ x = y := by
  rw [← Int64.toInt_inj]
  unfold mm_cmp lg_cmp
  simp only [gt_iff_lt, Int64.lt_iff_toInt_lt, ← Int64.toInt_inj]
  repeat' split
  all_goals (simp; try omega)
theorem l_of {z : Int} (h : mm_rng z) : (Int64.ofInt z).toInt = z := by
  unfold mm_rng at h
  exact Int64.toInt_ofInt_of_le (by omega) (by omega)
theorem l_0 : (Int64.ofNat ((0 : Fin 2) : Nat)).toInt = 0 := by decide
theorem l_1 : (Int64.ofNat ((1 : Fin 2) : Nat)).toInt = 1 := by decide
theorem lc0 : Int64.ofNat ((0 : Fin 2) : Nat) = 0 := rfl
theorem lc1 : Int64.ofNat ((1 : Fin 2) : Nat) = 1 := rfl
theorem tm_eq {a b : Int} (h : 0 ≤ a) : a.tmod b = a % b := Int.tmod_eq_emod_of_nonneg h
theorem td_eq {a b : Int} (h : 0 ≤ a) : a.tdiv b = a / b := Int.tdiv_eq_ediv_of_nonneg h
theorem rng_nat {n : Nat} (h : n < 2147483648) : mm_rng (n : Int) := ⟨by omega, by omega⟩
theorem tdn (a b : Nat) : ((a : Int)).tdiv (b : Int) = ((a / b : Nat) : Int) := by rw [td_eq (Int.natCast_nonneg a)]; rfl
theorem tmn (a b : Nat) : ((a : Int)).tmod (b : Int) = ((a % b : Nat) : Int) := by rw [tm_eq (Int.natCast_nonneg a)]; rfl
theorem cadd (a b : Nat) : (a : Int) + (b : Int) = ((a + b : Nat) : Int) := rfl
theorem cmul (a b : Nat) : (a : Int) * (b : Int) = ((a * b : Nat) : Int) := rfl
theorem csub {a b : Nat} (h : b ≤ a) : (a : Int) - (b : Int) = ((a - b : Nat) : Int) := by omega
/-- a quotient of numbers from 0 on is asked for -/
theorem dv_ok {a b : Nat} (hb : 0 < b) (ha : a < 2147483648) : (b : Int) ≠ 0 ∧ mm_rng (((a : Int)).tdiv (b : Int)) := ⟨by omega, by rw [tdn]; exact rng_nat (Nat.lt_of_le_of_lt (Nat.div_le_self a b) ha)⟩
