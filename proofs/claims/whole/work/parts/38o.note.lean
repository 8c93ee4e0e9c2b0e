/-! ===== perform: a note's numbers ===== -/
theorem lus33 (y : Int64) : 0 ≤ lus y 33 := by
  have e : (lus y 33).toBitVec = y.toBitVec >>> 33 := rfl
  rw [le_int64]
  have e1 : (lus y 33).toInt = (lus y 33).toBitVec.toInt := rfl
  have e0 : (0 : Int64).toInt = 0 := rfl
  rw [e0, e1, e, BitVec.toInt_eq_toNat_of_lt]
  · exact Int.natCast_nonneg _
  · rw [BitVec.toNat_ushiftRight, Nat.shiftRight_eq_div_pow]
    have := y.toBitVec.isLt
    omega
theorem floorMod_eq {a b : Int64} (ha : 0 ≤ a) (hb : 0 < b) (S : St) : f_J9_floorMod_f86c9 a b S = some (a - a / b * b, S) := by
  unfold f_J9_floorMod_f86c9 f_J9_floorMod_f86c9_b0 f_J9_floorMod_f86c9_b25
  rw [chk_of (nzL_pos hb)]
  simp only [vlet_eq]
  rw [if_pos (cmp_ge.mpr ((xor_sign (Int64.le_of_lt hb)).mpr ha))]
