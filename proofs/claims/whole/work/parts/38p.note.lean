/-! ===== perform: length and loudness of a note ===== -/
theorem mark_C {S : St} (a : Int32) : f_X6_isMarked a S = some (if (gI S 15) &&& a = 0 then 0 else 1, S) := by
  unfold f_X6_isMarked f_X6_isMarked_b0 f_X6_isMarked_b14
  have i0 : isB 0 = true := rfl
  have i1 : isB 1 = true := rfl
  rw [chk_of i0, chk_of i1]
  split <;> rfl
theorem mark_M {T : St} {k : Nat} (hk : k < 48) (a : Int32) : f_X12_has (nI k) a T = some (if (gA T 53 k) &&& a = 0 then 0 else 1, T) := by
  unfold f_X12_has f_X12_has_b0 f_X12_has_b16
  have i0 : isB 0 = true := rfl
  have i1 : isB 1 = true := rfl
  rw [chk_of i0, chk_of i1, chk_of (inb_nI hk (by omega)), rd, nI_clamp (by omega)]
  split <;> rfl
theorem lesser_eq (a c : Int32) (S : St) : f_X12_lesser a c S = some (imin a c, S) := by
  unfold f_X12_lesser f_X12_lesser_b0 f_X12_lesser_b10 imin
  by_cases h : c < a
  · rw [if_pos h, if_pos (Int32.le_of_lt h)]
  · rw [if_neg h]
    by_cases h2 : c ≤ a
    · rw [if_pos h2, Int32.le_antisymm h2 (Int32.not_lt.mp h)]
    · rw [if_neg h2]
/-- every number a note asks for: the same in both -/
theorem num_note {S T : St} (RN : RNotes S T) (RR : RRules S T) {k n m : Nat} (hn : gI S 2 = nI n) (hn48 : n ≤ 48) (hk : k < n) (hm : m < 13) : ∃ x, f_X8_numberFor (gA S 13 k) (nI m) S = some (x, S) ∧ f_X12_number (gA S 13 k) (nI m) T = some (x, T) ∧ tbr 1 (nI m) ≤ x ∧ x ≤ tbr 2 (nI m) := by
  obtain ⟨n2, h48, e1, e2, hh⟩ := RN
  have e : n2 = n := (nI_eq (by omega) (by omega)).mp (e1.symm.trans hn)
  subst e
  obtain ⟨⟨q1, q2, q3, q4, q5⟩, ok⟩ := hh k hk
  obtain ⟨v, hv, ev⟩ := (upto (n := 3) rfl (by omega)).mp ok.1
  rw [ev]
  exact RR.num (by omega) hm
theorem num_nat {x : Int32} {a c : Nat} (h1 : nI a ≤ x) (h2 : x ≤ nI c) (hc : c < 2 ^ 31) (ha : a ≤ c) : ∃ j, a ≤ j ∧ j ≤ c ∧ x = nI j := by
  have h0 : 0 ≤ x := Int32.le_trans (nI_pos' (n := a) (by omega)) h1
  obtain ⟨j, hj, e⟩ := (upto (a := x) (n := c) rfl hc).mp ⟨h0, h2⟩
  subst e
  exact ⟨j, (nI_leI (by omega) (by omega)).mp h1, hj, rfl⟩
theorem imin_nI {a c : Nat} (ha : a < 2 ^ 31) (hc : c < 2 ^ 31) : imin (nI a) (nI c) = nI (if c < a then c else a) := by
  unfold imin
  by_cases h : c < a
  · rw [if_pos (nI_lt h ha), if_pos h]
  · rw [if_neg (nI_nlt (by omega) hc), if_neg h]
theorem imax_nI {a c : Nat} (ha : a < 2 ^ 31) (hc : c < 2 ^ 31) : imax (nI a) (nI c) = nI (if a < c then c else a) := by
  unfold imax
  by_cases h : a < c
  · rw [if_pos (nI_lt h hc), if_pos h]
  · rw [if_neg (nI_nlt (by omega) ha), if_neg h]
