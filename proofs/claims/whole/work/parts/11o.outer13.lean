/-! the component: the tape -/
theorem ushr_255 (x : Int) (k : Nat) (hk : k < 4) : mm_and (mm_ushr x (8 * (k : Int))) 255 = mm_and (mm_shr x (8 * (k : Int))) 255 := by
  have key : ∀ y : Int32, ∀ k : Fin 4, ((y.toUInt32 >>> ((Int32.ofInt (8 * (k.val : Int))).toUInt32 &&& Int32.toUInt32 31)).toInt32 &&& 255) = ((y >>> (Int32.ofInt (8 * (k.val : Int)) &&& 31)) &&& 255) := by
    intro y k
    apply Int32.toBitVec_inj.mp
    match k with
    | 0 => sorry
    | 1 => sorry
    | 2 => sorry
    | 3 => sorry
  sorry
