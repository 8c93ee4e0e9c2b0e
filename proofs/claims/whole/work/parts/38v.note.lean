/-! ===== perform: the parts of a note ===== -/
theorem roll_key {S T : St} {k n : Nat} (hn : n ≤ 48) (hk : k < n) (e1 : gI S 2 = nI n) (e2 : gI T 23 = nI n) (hh : ∀ j, j < n → gA T 49 j = gA S 13 j ∧ gA T 50 j = gA S 14 j ∧ gA T 51 j = gA S 15 j ∧ gA T 52 j = gA S 16 j ∧ gA T 53 j = gA S 17 j) : ∀ d i f g c, i + d = n → d < f → d < g → c ≤ i → ∃ w, w ≤ 48 ∧ f_X4_rolledAhead_l4 (nI k) f (nI c, nI i, S) = some (nI w, S) ∧ f_X12_rolledAhead_l4 (nI k) g (nI c, nI i, T) = some (nI w, T) := by
  intro d
  induction d with
  | zero =>
    intro i f g c hi hf hg hc
    have e : i = n := by omega
    subst e
    obtain ⟨f, rfl⟩ : ∃ f1, f = f1 + 1 := ⟨f - 1, by omega⟩
    obtain ⟨g, rfl⟩ : ∃ f1, g = f1 + 1 := ⟨g - 1, by omega⟩
    refine ⟨c, by omega, ?_, ?_⟩
    · show f_X4_rolledAhead_b4 (f_X4_rolledAhead_l4 (nI k) f) (nI k) (nI c) (nI i) S = _
      unfold f_X4_rolledAhead_b4
      rw [e1, if_pos (nI_le (by omega) (by omega))]
    · show f_X12_rolledAhead_b4 (f_X12_rolledAhead_l4 (nI k) g) (nI k) (nI c) (nI i) T = _
      unfold f_X12_rolledAhead_b4
      rw [e2, if_pos (nI_le (by omega) (by omega))]
  | succ d ih =>
    intro i f g c hi hf hg hc
    obtain ⟨f, rfl⟩ : ∃ f1, f = f1 + 1 := ⟨f - 1, by omega⟩
    obtain ⟨g, rfl⟩ : ∃ f1, g = f1 + 1 := ⟨g - 1, by omega⟩
    have gi : inb (nI i) 48 = true := inb_nI (by omega) (by omega)
    have gk : inb (nI k) 48 = true := inb_nI (by omega) (by omega)
    have ci : (nI i).toNatClampNeg = i := nI_clamp (by omega)
    have ck : (nI k).toNatClampNeg = k := nI_clamp (by omega)
    have g5 : ¬ nI n ≤ nI i := nI_ge (by omega) (by omega)
    obtain ⟨h49, h50, h51, h52, h53⟩ := hh i (by omega)
    obtain ⟨k49, k50, k51, k52, k53⟩ := hh k hk
    have i0 : isB 0 = true := rfl
    have i1 : isB 1 = true := rfl
    have hik : (nI i = nI k) ↔ i = k := nI_eq (by omega) (by omega)
    have hle : (nI k ≤ nI i) ↔ k ≤ i := nI_leI (by omega) (by omega)
    have EC : f_X4_rolledAhead_l4 (nI k) (f + 1) (nI c, nI i, S) = f_X4_rolledAhead_l4 (nI k) f (if ¬ (gA S 17 i &&& 64 = 0) ∧ gA S 13 i = gA S 13 k ∧ gA S 14 i = gA S 14 k ∧ (gA S 16 i < gA S 16 k ∨ gA S 16 i = gA S 16 k ∧ ¬ k ≤ i) then nI (c + 1) else nI c, nI (i + 1), S) := by
      show f_X4_rolledAhead_b4 (f_X4_rolledAhead_l4 (nI k) f) (nI k) (nI c) (nI i) S = _
      unfold f_X4_rolledAhead_b4 f_X4_rolledAhead_b33 f_X4_isInChord f_X4_isInChord_b0 f_X4_isInChord_b17 f_X4_isInChord_b56 f_X4_isInChord_b57 f_X4_isLower f_X4_isLower_b0 f_X4_isLower_b35 f_X4_isLower_b39 f_X4_isLower_b40
      simp only [e1, if_neg g5, chk_of gi, chk_of gk, rd, ci, ck, chk_of i0, chk_of i1, nI_1, hle]
      by_cases c1 : gA S 17 i &&& 64 = 0
      · simp only [c1, reduceIte, bnd_mk, not_true_eq_false, false_and]
      · by_cases c2 : gA S 13 i = gA S 13 k
        · by_cases c3 : gA S 14 i = gA S 14 k
          · by_cases c4 : gA S 16 i < gA S 16 k
            · simp only [c1, c2, c3, c4, if_neg (show ¬ (1 : Int32) = 0 by decide), reduceIte, bnd_mk, not_false_eq_true, true_and, and_self, true_or]
            · by_cases c5 : gA S 16 i = gA S 16 k
              · by_cases c6 : k ≤ i
                · simp only [c1, c2, c3, if_neg c4, c4, c5, c6, if_neg (show ¬ (1 : Int32) = 0 by decide), reduceIte, bnd_mk, not_false_eq_true, true_and, and_self, false_or, not_true_eq_false, and_false, Int32.lt_irrefl]
                · simp only [c1, c2, c3, if_neg c4, c4, c5, c6, if_neg (show ¬ (1 : Int32) = 0 by decide), reduceIte, bnd_mk, not_false_eq_true, true_and, and_self, false_or, Int32.lt_irrefl]
              · simp only [c1, c2, c3, c4, c5, if_neg (show ¬ (1 : Int32) = 0 by decide), reduceIte, bnd_mk, not_false_eq_true, true_and, and_self, false_or, false_and]
          · simp only [c1, c2, c3, if_neg (show ¬ (1 : Int32) = 0 by decide), reduceIte, bnd_mk, not_false_eq_true, true_and, false_and]
        · simp only [c1, c2, if_neg (show ¬ (1 : Int32) = 0 by decide), reduceIte, bnd_mk, not_false_eq_true, true_and, false_and]
    have EM : f_X12_rolledAhead_l4 (nI k) (g + 1) (nI c, nI i, T) = f_X12_rolledAhead_l4 (nI k) g (if ¬ (gA S 17 i &&& 64 = 0) ∧ gA S 13 i = gA S 13 k ∧ gA S 14 i = gA S 14 k ∧ (gA S 16 i < gA S 16 k ∨ gA S 16 i = gA S 16 k ∧ ¬ k ≤ i) then nI (c + 1) else nI c, nI (i + 1), T) := by
      show f_X12_rolledAhead_b4 (f_X12_rolledAhead_l4 (nI k) g) (nI k) (nI c) (nI i) T = _
      unfold f_X12_rolledAhead_b4 f_X12_rolledAhead_b61 f_X12_rolledAhead_b62 f_X12_rolledAhead_b105 f_X12_rolledAhead_b109 f_X12_rolledAhead_b110
      simp only [e2, if_neg g5, mark_M (show i < 48 by omega), bnd_mk, chk_of gi, chk_of gk, rd, ci, ck, nI_1, hle, hik, h49, h50, h52, h53, k49, k50, k52, vlet_eq, Int32.add_zero]
      by_cases c0 : i = k
      · subst c0
        simp only [reduceIte, Int32.lt_irrefl, Nat.le_refl, not_true_eq_false, and_false, or_self]
      · by_cases c1 : gA S 17 i &&& 64 = 0
        · simp only [c0, c1, reduceIte, not_true_eq_false, false_and]
        · by_cases c2 : gA S 13 i = gA S 13 k
          · by_cases c3 : gA S 14 i = gA S 14 k
            · by_cases c4 : gA S 16 i < gA S 16 k
              · simp only [c0, c1, c2, c3, c4, if_neg (show ¬ (1 : Int32) = 0 by decide), reduceIte, not_false_eq_true, true_and, and_self, true_or]
              · by_cases c5 : gA S 16 i = gA S 16 k
                · by_cases c6 : k ≤ i
                  · simp only [c0, c1, c2, c3, c5, c6, if_neg (show ¬ (1 : Int32) = 0 by decide), reduceIte, not_false_eq_true, true_and, and_self, false_or, not_true_eq_false, and_false, Int32.lt_irrefl]
                  · simp only [c0, c1, c2, c3, c5, c6, if_neg (show ¬ (1 : Int32) = 0 by decide), reduceIte, not_false_eq_true, true_and, and_self, false_or, Int32.lt_irrefl]
                · simp only [c0, c1, c2, c3, c4, c5, if_neg (show ¬ (1 : Int32) = 0 by decide), reduceIte, not_false_eq_true, true_and, and_self, false_or, false_and]
            · simp only [c0, c1, c2, c3, if_neg (show ¬ (1 : Int32) = 0 by decide), reduceIte, not_false_eq_true, true_and, false_and]
          · simp only [c0, c1, c2, if_neg (show ¬ (1 : Int32) = 0 by decide), reduceIte, not_false_eq_true, true_and, false_and]
    rw [EC, EM]
    split
    · exact ih (i + 1) f g (c + 1) (by omega) (by omega) (by omega) (by omega)
    · exact ih (i + 1) f g c (by omega) (by omega) (by omega) (by omega)
