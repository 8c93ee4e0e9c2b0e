/-! ===== read ===== -/
theorem sort_0 (x : Int32) : sortF x = 0 ↔ kd x = 0 := by
  rw [kd0]
  unfold sortF
  by_cases h : kd x = 2
  · rw [if_pos h]; refine ⟨fun q => absurd q (by decide), fun q => ?_⟩; subst q; exact absurd h (by decide)
  · rw [if_neg h]
    by_cases h3 : kd x = 3
    · rw [if_pos h3]; refine ⟨fun q => absurd q (by decide), fun q => ?_⟩; subst q; exact absurd h3 (by decide)
    · rw [if_neg h3]
      by_cases h4 : x = -1
      · rw [if_pos h4]; exact ⟨fun _ => h4, fun _ => rfl⟩
      · rw [if_neg h4]
        refine ⟨fun q => ?_, fun q => absurd q h4⟩
        split at q <;> exact absurd q (by decide)
def RdInv (n : Nat) (B : Nat → Int32) (S0 S T : St) (n0 m p : Nat) : Prop := PcC S n B p ∧ PcM T n B p ∧ p ≤ n ∧ TpC S n B ∧ TpM T n B ∧ gI S 7 = nI m ∧ gI S 6 = nI n0 ∧ gI T 28 = nI n0 ∧ (∀ k, k < m → (gA T 60 k = gA S 26 k ∧ gA T 61 k = gA S 27 k ∧ gA T 62 k = gA S 28 k ∧ gA T 63 k = gA S 29 k) ∧ RuleOk (gA S 26 k) (gA S 27 k) (gA S 28 k) (gA S 29 k)) ∧ (∀ k, k < n0 → gA S 26 k = gA S0 26 k ∧ gA S 27 k = gA S0 27 k ∧ gA S 28 k = gA S0 28 k ∧ gA S 29 k = gA S0 29 k)
def RdEnd (S0 : St) (n0 : Nat) (o1 o2 : Option (Int32 × St)) : Prop := ∃ S1 T1 m x y, o1 = some (x, S1) ∧ o2 = some (y, T1) ∧ n0 ≤ m ∧ m ≤ 24 ∧ gI S1 7 = nI m ∧ gI S1 6 = nI n0 ∧ gI T1 29 = 0 ∧ (∀ k, k < m → (gA T1 60 k = gA S1 26 k ∧ gA T1 61 k = gA S1 27 k ∧ gA T1 62 k = gA S1 28 k ∧ gA T1 63 k = gA S1 29 k) ∧ RuleOk (gA S1 26 k) (gA S1 27 k) (gA S1 28 k) (gA S1 29 k)) ∧ (∀ k, k < n0 → gA S1 26 k = gA S0 26 k ∧ gA S1 27 k = gA S0 27 k ∧ gA S1 28 k = gA S0 28 k ∧ gA S1 29 k = gA S0 29 k) ∧ ((x = -1 ∧ y = nI m ∧ gI T1 28 = nI m) ∨ (¬ x = -1 ∧ y = (-10) - x ∧ gI T1 28 = nI n0))
theorem read_fin (m : Nat) (T : St) : f_X12_read_b47 (nI m) 1 T = some (nI m, pI (pI T 29 0) 28 (nI m)) := by
  unfold f_X12_read_b47
  rw [vlet_eq, vlet_eq, if_neg (by decide), vlet_eq, gI_pI, if_pos rfl]
theorem read_bad (m q : Nat) (T : St) (h : gI T 31 = nI q) : f_X12_read_b47 (nI m) 0 T = some ((-10) - nI q, pI T 29 0) := by
  unfold f_X12_read_b47
  rw [vlet_eq, vlet_eq, if_pos rfl, h]
