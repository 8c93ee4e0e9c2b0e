/-! ===== perform: a note's numbers ===== -/
theorem lus33 (y : Int64) : 0 ≤ lus y 33 := by
  have e : (lus y 33).toBitVec = y.toBitVec >>> 33 := rfl
  rw [le_int64]
  have e1 : (lus y 33).toInt = (lus y 33).toBitVec.toInt := rfl
  have e0 : (0 : Int64).toInt = 0 := rfl
  rw [e0, e1, e, BitVec.toInt_eq_toNat_of_lt]
  · exact Int.natCast_nonneg _
  · rw [BitVec.toNat_ushiftRight, Nat.shiftRight_eq_div_pow]
    have := y.toBitVec.isLt
    omega
theorem floorMod_eq {a b : Int64} (ha : 0 ≤ a) (hb : 0 < b) (S : St) : f_J9_floorMod_f86c9 a b S = some (a - a / b * b, S) := by
  unfold f_J9_floorMod_f86c9 f_J9_floorMod_f86c9_b0 f_J9_floorMod_f86c9_b25
  rw [chk_of (nzL_pos hb)]
  simp only [vlet_eq]
  rw [if_pos (cmp_ge.mpr ((xor_sign (Int64.le_of_lt hb)).mpr ha))]
/-- the note is taken up by the class -/
def Taken (S : St) (k : Nat) : Prop := gI S 12 = nI k ∧ gI S 13 = gA S 13 k ∧ gI S 14 = gA S 16 k ∧ gI S 15 = gA S 17 k
theorem vdiv (x : Int32) (h1 : 0 ≤ x) (h2 : x ≤ 99) : 0 < 2 * x.toInt64 + 1 ∧ (imax 0 x) = x := by
  have a1 := le_int.mp h1
  have a2 := le_int.mp h2
  have e0 : (0 : Int32).toInt = 0 := rfl
  have e99 : (99 : Int32).toInt = 99 := rfl
  have f2 : (2 : Int64).toInt = 2 := rfl
  have f1 : (1 : Int64).toInt = 1 := rfl
  have f0 : (0 : Int64).toInt = 0 := rfl
  have m1 : (2 * x.toInt64).toInt = 2 * x.toInt := by rw [mulL (by rw [f2, wideI]; omega) (by rw [f2, wideI]; omega), f2, wideI]
  refine ⟨?_, ?_⟩
  · rw [lt_int64, addL (by rw [m1, f1]; omega) (by rw [m1, f1]; omega), m1, f1, f0]; omega
  · refine eq_int.mpr ?_
    rw [imax_int, e0]
    split <;> omega
theorem on_both {S T : St} (RN : RNotes S T) (RR : RRules S T) (hj : gJ T 1 = gJ S 0) {k n : Nat} (hn : gI S 2 = nI n) (hn48 : n ≤ 48) (hk : k < n) (tk : Taken S k) : ∃ o, f_X6_onOf (gA S 14 k) (gJ S 0) S = some (o, S) ∧ f_X12_onOf (nI k) T = some (o, T) := by
  obtain ⟨n2, h48, e1, e2, hh⟩ := RN
  have e : n2 = n := (nI_eq (by omega) (by omega)).mp (e1.symm.trans hn)
  subst e
  obtain ⟨⟨q1, q2, q3, q4, q5⟩, ok⟩ := hh k hk
  obtain ⟨v, hv, ev⟩ := (upto (n := 3) rfl (by omega)).mp ok.1
  obtain ⟨x, c1, c2, c3, c4⟩ := RR.num (show v < 4 by omega) (show 12 < 13 by omega)
  have g1 : inb (nI k) 48 = true := inb_nI (by omega) (by omega)
  have g2 : (nI k).toNatClampNeg = k := nI_clamp (by omega)
  have x0 : 0 ≤ x := c3
  have x9 : x ≤ 99 := c4
  obtain ⟨z1, z2⟩ := vdiv x x0 x9
  have c1 : f_X8_numberFor (gI S 13) 12 S = some (x, S) := by rw [tk.2.1, ev]; exact c1
  have c2 : f_X12_number (gA T 49 k) 12 T = some (x, T) := by rw [q1, ev]; exact c2
  unfold f_X6_onOf f_X6_onOf_b0 f_X6_onOf_b34 f_X12_onOf f_X12_onOf_b0 f_X12_onOf_b92 f_X6_drawOf f_X6_drawOf_b0
  simp only [rd, g2, chk_of g1, c1, c2, bnd_mk, tk.1, vlet_eq, hj, q2, z2, floorMod_eq (lus33 _) z1, chk_of (nzL_pos z1)]
  by_cases hx : x = 0
  · have hx2 : x ≤ 0 := by rw [hx]; exact Int32.le_refl _
    simp only [if_pos hx, if_pos hx2]
    exact ⟨_, rfl, rfl⟩
  · have hx2 : ¬ x ≤ 0 := fun q => hx (Int32.le_antisymm q x0)
    simp only [if_neg hx, if_neg hx2]
    generalize Int64.toInt32 _ = w
    have ea : gA S 14 k + (w - x) = gA S 14 k + w - x := by
      rw [Int32.sub_eq_add_neg, Int32.sub_eq_add_neg, Int32.add_assoc]
    rw [ea]
    generalize gA S 14 k + w - x = u
    refine ⟨_, rfl, ?_⟩
    unfold imax
    by_cases hu : 0 ≤ u
    · rw [if_pos hu]
      by_cases hu2 : 0 < u
      · rw [if_pos hu2]
      · rw [if_neg hu2, Int32.le_antisymm (Int32.not_lt.mp hu2) hu]
    · rw [if_neg hu, if_neg (fun q => hu (Int32.le_of_lt q))]
