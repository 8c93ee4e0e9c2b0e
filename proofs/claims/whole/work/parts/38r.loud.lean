/-! ===== perform: how loud a note is ===== -/
theorem mult_C {a b : Nat} (hb : 0 < b) (ha : a < 2 ^ 31) (hb2 : b < 2 ^ 31) (S : St) : f_X9_isMultiple (nI a) (nI b) S = some (if a % b = 0 then 1 else 0, S) := by
  unfold f_X9_isMultiple f_X9_isMultiple_b0 f_X9_isMultiple_b14 f_X9_isMultiple_b15
  have i0 : isB 0 = true := rfl
  have i1 : isB 1 = true := rfl
  have hz : nzI (nI b) = true := decide_eq_true (nI_ne0 hb hb2)
  rw [if_neg (nI_nle hb hb2), chk_of hz, pk_rem ha hb hb2, chk_of i0, chk_of i1]
  have hlt : a % b < b := Nat.mod_lt _ hb
  by_cases h : a % b = 0
  · rw [h, if_pos (show nI 0 = 0 from rfl), if_pos rfl]
  · rw [if_neg h, if_neg (nI_ne0 (by omega) (by omega))]
theorem mult_M {a b : Nat} (hb : 0 < b) (ha : a < 2 ^ 31) (hb2 : b < 2 ^ 31) : nzI (nI b) = true ∧ ((nI a - nI a / nI b * nI b = 0) ↔ a % b = 0) := by
  refine ⟨decide_eq_true (nI_ne0 hb hb2), ?_⟩
  rw [pk_rem ha hb hb2]
  have hlt : a % b < b := Nat.mod_lt _ hb
  constructor
  · intro h
    rcases Nat.eq_zero_or_pos (a % b) with z | z
    · exact z
    · exact absurd h (nI_ne0 z (by omega))
  · intro h; rw [h]; rfl
