/-! ===== perform: how long a note is ===== -/
theorem long_both {S T : St} (RN : RNotes S T) (RR : RRules S T) {k n : Nat} (hn : gI S 2 = nI n) (hn48 : n ≤ 48) (hk : k < n) (tk : Taken S k) : ∃ w, 1 ≤ w ∧ w ≤ 960 ∧ f_X6_longOf (gA S 15 k) S = some (nI w, S) ∧ f_X12_longOf (nI k) T = some (nI w, T) := by
  have RN0 := RN
  obtain ⟨n2, h48, e1, e2, hh⟩ := RN
  have e : n2 = n := (nI_eq (by omega) (by omega)).mp (e1.symm.trans hn)
  subst e
  obtain ⟨⟨q1, q2, q3, q4, q5⟩, ok⟩ := hh k hk
  obtain ⟨l, l1, l2, el⟩ := num_nat (a := 1) (c := 960) ok.2.2.1.1 ok.2.2.1.2 (by omega) (by omega)
  have g1 : inb (nI k) 48 = true := inb_nI (by omega) (by omega)
  have g2 : (nI k).toNatClampNeg = k := nI_clamp (by omega)
  obtain ⟨y, c5, c6, c7, c8⟩ := num_note RN0 RR hn hn48 hk (show 3 < 13 by omega)
  obtain ⟨b, b1, b2, rfl⟩ := num_nat (x := y) (a := 1) (c := 960) c7 c8 (by omega) (by omega)
  -- with any of the three
  have go : ∀ m, m < 3 → ∃ w, 1 ≤ w ∧ w ≤ 960 ∧ f_X6_longOf_b25 (gA S 15 k) (nI m) S = some (nI w, S) ∧ f_X12_longOf_b34 (nI k) (gA T 49 k) (nI m) T = some (nI w, T) := by
    intro m hm
    obtain ⟨x, c1, c2, c3, c4⟩ := num_note RN0 RR hn hn48 hk (show m < 13 by omega)
    have hb : nI 1 ≤ tbr 1 (nI m) ∧ tbr 2 (nI m) ≤ nI 100 := by
      have hs : m = 0 ∨ m = 1 ∨ m = 2 := by omega
      rcases hs with rfl | rfl | rfl <;> decide
    obtain ⟨a, a1, a2, rfl⟩ := num_nat (a := 1) (c := 100) (Int32.le_trans hb.1 c3) (Int32.le_trans c4 hb.2) (by omega) (by omega)
    have hla : l * a ≤ 960 * 100 := Nat.mul_le_mul l2 a2
    have ed : nI l * nI a / 100 = nI (l * a / 100) := by
      rw [pk_mul, show (100 : Int32) = nI 100 from rfl, pk_div (by omega) (by omega) (by omega)]
    have z100 : nzI 100 = true := rfl
    unfold f_X6_longOf_b25 f_X12_longOf_b34 f_X12_longOf_b84
    have c5' : f_X8_numberFor (gA S 13 k) 3 S = some (nI b, S) := c5
    have c6' : f_X12_number (gA S 13 k) 3 T = some (nI b, T) := c6
    simp only [tk.2.1, c1, bnd_mk, c5', vlet_eq, el, chk_of z100, ed, rd, g2, chk_of g1, q1, q3, c2, c6', lesser_eq]
    have hd : l * a / 100 ≤ 960 := by omega
    rw [imin_nI (by omega) (by omega)]
    generalize hw : (if l < b then l else b) = u
    have hu : 1 ≤ u ∧ u ≤ 960 := by split at hw <;> omega
    rw [imax_nI (by omega) (by omega)]
    refine ⟨if u < l * a / 100 then l * a / 100 else u, ?_, ?_, rfl, ?_⟩
    · split <;> omega
    · split <;> omega
    · by_cases h : u < l * a / 100
      · rw [if_pos h, if_pos (nI_le (by omega) (by omega))]
      · rw [if_neg h]
        by_cases h2 : u = l * a / 100
        · rw [if_pos (nI_le (by omega) (by omega)), h2]
        · rw [if_neg (nI_ge (by omega) (by omega))]
  unfold f_X6_longOf f_X6_longOf_b0 f_X12_longOf f_X12_longOf_b0
  have hk48 : k < 48 := by omega
  simp only [mark_C, mark_M hk48, bnd_mk, tk.2.2.2, q5, chk_of g1, rd, g2]
  by_cases m1 : gA S 17 k &&& 1 = 0
  · simp only [if_pos m1, reduceIte]
    by_cases m2 : gA S 17 k &&& 2 = 0
    · simp only [if_pos m2, reduceIte]; exact go 1 (by omega)
    · simp only [if_neg m2, if_neg (show ¬ (1 : Int32) = 0 by decide)]; exact go 2 (by omega)
  · simp only [if_neg m1, if_neg (show ¬ (1 : Int32) = 0 by decide)]; exact go 0 (by omega)
