/-! ===== the law's loop ===== -/
theorem rel0 (sd : Int64) : Rel (S0 sd) (S0 sd) := by
  refine ⟨⟨0, by omega, rfl, rfl, fun k h => absurd h (Nat.not_lt_zero k)⟩, ⟨rfl, rfl, ⟨show (1 : Int32) ≤ 4 by decide, show (4 : Int32) ≤ 12 by decide⟩, show (1 : Int32) ≤ 240 by decide, show (240 : Int32) ≤ 960 by decide⟩, ⟨0, by omega, rfl, rfl, fun i j _ h => absurd h (Nat.not_lt_zero j), fun i h => absurd h (Nat.not_lt_zero i), fun i h => absurd h (Nat.not_lt_zero i), fun i h => absurd h (Nat.not_lt_zero i), fun i j h => absurd h (Nat.not_lt_zero i)⟩, ⟨0, by omega, rfl, rfl, fun k h => absurd h (Nat.not_lt_zero k), fun i j h => absurd h (Nat.not_lt_zero i)⟩, ⟨0, by omega, rfl, rfl, fun k h => absurd h (Nat.not_lt_zero k)⟩, ⟨0, by omega, rfl, rfl, fun k h => absurd h (Nat.not_lt_zero k), fun v m hv hm => ?_⟩, ⟨0, by omega, rfl, rfl, fun i h => absurd h (Nat.not_lt_zero i), fun i j _ h => absurd h (Nat.not_lt_zero j)⟩, Or.inl ⟨rfl, rfl⟩, rfl⟩
  show cnt52 (v * 13 + m) = -1
  unfold cnt52
  exact if_pos (by omega)
theorem glue_step {f g : St → Option (Int32 × St)} (h : Op f g) (hf : ∀ S r0, f S = some r0 → KM S r0.2) (hg : ∀ T r0, g T = some r0 → KC T r0.2) {S : St} (R : Rel S S) (K : St → Option (Int32 × St)) (hK : ∀ S1, Rel S1 S1 → ∃ r0 : Int32 × St, K S1 = some r0 ∧ r0.1 = 1) : ∃ r0 : Int32 × St, bnd (f S) (fun r3 S2 => bnd (g S2) (fun r5 S4 => if r3 = r5 then K S4 else some (0, S4))) = some r0 ∧ r0.1 = 1 := by
  obtain ⟨r, S1, T1, e1, e2, R1⟩ := h.glue hf hg R
  rw [e1, bnd_mk, e2, bnd_mk, if_pos rfl]
  exact hK T1 R1
/-- one call of the law, read at i -/
theorem law_turn (L : Nat) (xs : Nat → Int32) (hL : L ≤ 3073) (rec30 : Int32 × St → Option (Int32 × St)) {i : Nat} (hi : i + 6 ≤ L) {S : St} (R : Rel S S) (hK : ∀ S1, Rel S1 S1 → ∃ r0 : Int32 × St, rec30 (nI (i + 6), S1) = some r0 ∧ r0.1 = 1) : ∃ r0 : Int32 × St, f_L_law_b30 L xs rec30 (nI i) S = some r0 ∧ r0.1 = 1 := by
  have p1 : nI i + 1 = nI (i + 1) := nI_add i 1
  have p2 : nI i + 2 = nI (i + 2) := nI_add i 2
  have p3 : nI i + 3 = nI (i + 3) := nI_add i 3
  have p4 : nI i + 4 = nI (i + 4) := nI_add i 4
  have p5 : nI i + 5 = nI (i + 5) := nI_add i 5
  have p6 : nI i + 6 = nI (i + 6) := nI_add i 6
  have g0 : inb (nI i) L = true := inb_nI (by omega) (by omega)
  have g1 : inb (nI (i + 1)) L = true := inb_nI (by omega) (by omega)
  have g2 : inb (nI (i + 2)) L = true := inb_nI (by omega) (by omega)
  have g3 : inb (nI (i + 3)) L = true := inb_nI (by omega) (by omega)
  have g4 : inb (nI (i + 4)) L = true := inb_nI (by omega) (by omega)
  have g5 : inb (nI (i + 5)) L = true := inb_nI (by omega) (by omega)
  have eL : (nI L - 6).toInt = (L : Int) - 6 := by
    have := nI_toInt (n := L) (by omega)
    have e6 : (6 : Int32).toInt = 6 := rfl
    rw [subI (by rw [this, e6]; omega) (by rw [this, e6]; omega), this, e6]
  have hend : ¬ nI L - 6 < nI i := fun q => by
    have := lt_int.mp q
    rw [eL, nI_toInt (by omega)] at this
    omega
  have hK : ∀ S1, Rel S1 S1 → ∃ r0 : Int32 × St, f_L_law_b722 L xs rec30 (nI i) S1 = some r0 ∧ r0.1 = 1 := by
    intro S1 R1
    unfold f_L_law_b722
    rw [p6]
    exact hK S1 R1
  unfold f_L_law_b30
  rw [if_neg hend, chk_of g0]
  by_cases h0 : xs (Int32.toNatClampNeg (nI i)) &&& 31 = 0
  · rw [if_pos h0]
    simp only [p1, p2, p3, p4, p5, chk_of g1, chk_of g2, chk_of g3, chk_of g4, chk_of g5]
    exact glue_step (op_note _ _ _ _ _) (fun S r0 h => (fr_X11_note _ _ _ _ _ S h).km rfl rfl rfl) (fun T r0 h => (fr_X12_note _ _ _ _ _ T h).kc rfl rfl rfl rfl) R (f_L_law_b722 L xs rec30 (nI i)) hK
  rw [if_neg h0]
  by_cases h1 : xs (Int32.toNatClampNeg (nI i)) &&& 31 = 1
  · rw [if_pos h1]
    simp only [p1, p2, chk_of g1, chk_of g2]
    exact glue_step (op_mark _ _) (fun S r0 h => (fr_X11_mark _ _ S h).km rfl rfl rfl) (fun T r0 h => (fr_X12_mark _ _ T h).kc rfl rfl rfl rfl) R (f_L_law_b722 L xs rec30 (nI i)) hK
  rw [if_neg h1]
  by_cases h2 : xs (Int32.toNatClampNeg (nI i)) &&& 31 = 2
  · rw [if_pos h2]
    unfold f_L_law_b252 f_L_law_b279
    by_cases hz : xs (Int32.toNatClampNeg (nI (i + 3))) = 0
    · simp only [p1, p2, p3, chk_of g1, chk_of g2, chk_of g3, if_pos hz]
      exact glue_step (op_level _ _ 0 (Or.inl rfl)) (fun S r0 h => (fr_X11_level _ _ _ S h).km rfl rfl rfl) (fun T r0 h => (fr_X12_level _ _ _ T h).kc rfl rfl rfl rfl) R (f_L_law_b722 L xs rec30 (nI i)) hK
    · simp only [p1, p2, p3, chk_of g1, chk_of g2, chk_of g3, if_neg hz]
      exact glue_step (op_level _ _ 1 (Or.inr rfl)) (fun S r0 h => (fr_X11_level _ _ _ S h).km rfl rfl rfl) (fun T r0 h => (fr_X12_level _ _ _ T h).kc rfl rfl rfl rfl) R (f_L_law_b722 L xs rec30 (nI i)) hK
  rw [if_neg h2]
  by_cases h3 : xs (Int32.toNatClampNeg (nI i)) &&& 31 = 3
  · rw [if_pos h3]
    simp only [p1, p2, chk_of g1, chk_of g2]
    exact glue_step (op_meter _ _) (fun S r0 h => (fr_X11_meter _ _ S h).km rfl rfl rfl) (fun T r0 h => (fr_X12_meter _ _ T h).kc rfl rfl rfl rfl) R (f_L_law_b722 L xs rec30 (nI i)) hK
  rw [if_neg h3]
  by_cases h4 : xs (Int32.toNatClampNeg (nI i)) &&& 31 = 4
  · rw [if_pos h4]
    simp only [p1, p2, p3, chk_of g1, chk_of g2, chk_of g3]
    exact glue_step (op_arc _ _ _) (fun S r0 h => (fr_X11_arc _ _ _ S h).km rfl rfl rfl) (fun T r0 h => (fr_X12_arc _ _ _ T h).kc rfl rfl rfl rfl) R (f_L_law_b722 L xs rec30 (nI i)) hK
  rw [if_neg h4]
  by_cases h5 : xs (Int32.toNatClampNeg (nI i)) &&& 31 = 5
  · rw [if_pos h5]
    simp only [p1, chk_of g1]
    exact glue_step (op_levelAt _) (fun S r0 h => (fr_X11_levelAt _ S h).km rfl rfl rfl) (fun T r0 h => (fr_X12_levelAt _ T h).kc rfl rfl rfl rfl) R (f_L_law_b722 L xs rec30 (nI i)) hK
  rw [if_neg h5]
  by_cases h6 : xs (Int32.toNatClampNeg (nI i)) &&& 31 = 6
  · rw [if_pos h6]
    simp only [p1, chk_of g1]
    exact glue_step (op_timeOf _) (fun S r0 h => (fr_X11_timeOf _ S h).km rfl rfl rfl) (fun T r0 h => (fr_X12_timeOf _ T h).kc rfl rfl rfl rfl) R (f_L_law_b722 L xs rec30 (nI i)) hK
  rw [if_neg h6]
  by_cases h7 : xs (Int32.toNatClampNeg (nI i)) &&& 31 = 7
  · rw [if_pos h7]
    simp only [p1, p2, p3, chk_of g1, chk_of g2, chk_of g3]
    exact glue_step (op_feed _ _) (fun S r0 h => (fr_X11_feed _ _ S h).km rfl rfl rfl) (fun T r0 h => (fr_X12_feed _ _ T h).kc rfl rfl rfl rfl) R (f_L_law_b722 L xs rec30 (nI i)) hK
  rw [if_neg h7]
  by_cases h8 : xs (Int32.toNatClampNeg (nI i)) &&& 31 = 8
  · rw [if_pos h8]
    exact glue_step op_read (fun S r0 h => (fr_X11_read S h).km rfl rfl rfl) (fun T r0 h => (fr_X12_read T h).kc rfl rfl rfl rfl) R (f_L_law_b722 L xs rec30 (nI i)) hK
  rw [if_neg h8]
  by_cases h9 : xs (Int32.toNatClampNeg (nI i)) &&& 31 = 9
  · rw [if_pos h9]
    exact glue_step op_plain (fun S r0 h => (fr_X11_plain S h).km rfl rfl rfl) (fun T r0 h => (fr_X12_plain T h).kc rfl rfl rfl rfl) R (f_L_law_b722 L xs rec30 (nI i)) hK
  rw [if_neg h9]
  by_cases h10 : xs (Int32.toNatClampNeg (nI i)) &&& 31 = 10
  · rw [if_pos h10]
    simp only [p1, p2, chk_of g1, chk_of g2]
    exact glue_step (op_rule _ _) (fun S r0 h => (fr_X11_rule _ _ S h).km rfl rfl rfl) (fun T r0 h => (fr_X12_rule _ _ T h).kc rfl rfl rfl rfl) R (f_L_law_b722 L xs rec30 (nI i)) hK
  rw [if_neg h10]
  by_cases h11 : xs (Int32.toNatClampNeg (nI i)) &&& 31 = 11
  · rw [if_pos h11]
    simp only [p1, p2, chk_of g1, chk_of g2]
    exact glue_step (op_value _ _) (fun S r0 h => (fr_X11_value _ _ S h).km rfl rfl rfl) (fun T r0 h => (fr_X12_value _ _ T h).kc rfl rfl rfl rfl) R (f_L_law_b722 L xs rec30 (nI i)) hK
  rw [if_neg h11]
  by_cases h12 : xs (Int32.toNatClampNeg (nI i)) &&& 31 = 12
  · rw [if_pos h12]
    simp only [p1, p2, chk_of g1, chk_of g2]
    exact glue_step (op_why _ _) (fun S r0 h => (fr_X11_why _ _ S h).km rfl rfl rfl) (fun T r0 h => (fr_X12_why _ _ T h).kc rfl rfl rfl rfl) R (f_L_law_b722 L xs rec30 (nI i)) hK
  rw [if_neg h12]
  by_cases h13 : xs (Int32.toNatClampNeg (nI i)) &&& 31 = 13
  · rw [if_pos h13]
    exact glue_step op_perform (fun S r0 h => (fr_X11_perform S h).km rfl rfl rfl) (fun T r0 h => (fr_X12_perform T h).kc rfl rfl rfl rfl) R (f_L_law_b722 L xs rec30 (nI i)) hK
  rw [if_neg h13]
  by_cases h14 : xs (Int32.toNatClampNeg (nI i)) &&& 31 = 14
  · rw [if_pos h14]
    simp only [p1, p2, chk_of g1, chk_of g2]
    exact glue_step (op_event _ _) (fun S r0 h => (fr_X11_event _ _ S h).km rfl rfl rfl) (fun T r0 h => (fr_X12_event _ _ T h).kc rfl rfl rfl rfl) R (f_L_law_b722 L xs rec30 (nI i)) hK
  rw [if_neg h14]
  by_cases h15 : xs (Int32.toNatClampNeg (nI i)) &&& 31 = 15
  · rw [if_pos h15]
    simp only [p1, chk_of g1]
    exact glue_step (op_sounding _) (fun S r0 h => (fr_X11_sounding _ S h).km rfl rfl rfl) (fun T r0 h => (fr_X12_sounding _ T h).kc rfl rfl rfl rfl) R (f_L_law_b722 L xs rec30 (nI i)) hK
  rw [if_neg h15]
  by_cases h16 : xs (Int32.toNatClampNeg (nI i)) &&& 31 = 16
  · rw [if_pos h16]
    simp only [p1, p2, chk_of g1, chk_of g2]
    exact glue_step (op_span _ _) (fun S r0 h => (fr_X11_span _ _ S h).km rfl rfl rfl) (fun T r0 h => (fr_X12_span _ _ T h).kc rfl rfl rfl rfl) R (f_L_law_b722 L xs rec30 (nI i)) hK
  rw [if_neg h16]
  by_cases h17 : xs (Int32.toNatClampNeg (nI i)) &&& 31 = 17
  · rw [if_pos h17]
    simp only [p1, chk_of g1]
    exact glue_step (op_count _) (fun S r0 h => (fr_X11_count _ S h).km rfl rfl rfl) (fun T r0 h => (fr_X12_count _ T h).kc rfl rfl rfl rfl) R (f_L_law_b722 L xs rec30 (nI i)) hK
  rw [if_neg h17]
  exact hK S R
theorem law_loop (L : Nat) (xs : Nat → Int32) (hL : L ≤ 3073) : ∀ d i f S, L ≤ i + d → i ≤ 4000 → d < f → Rel S S → ∃ r0 : Int32 × St, f_L_law_l30 L xs f (nI i, S) = some r0 ∧ r0.1 = 1 := by
  intro d
  induction d using Nat.strongRecOn with
  | ind d ih =>
    intro i f S hi hi2 hf R
    obtain ⟨f, rfl⟩ : ∃ f1, f = f1 + 1 := ⟨f - 1, by omega⟩
    show ∃ r0 : Int32 × St, f_L_law_b30 L xs (f_L_law_l30 L xs f) (nI i) S = some r0 ∧ r0.1 = 1
    by_cases h : i + 6 ≤ L
    · exact law_turn L xs hL (f_L_law_l30 L xs f) h R (fun S1 R1 => ih (d - 6) (by omega) (i + 6) f S1 (by omega) (by omega) (by omega) R1)
    · have eL : (nI L - 6).toInt = (L : Int) - 6 := by
        have := nI_toInt (n := L) (by omega)
        have e6 : (6 : Int32).toInt = 6 := rfl
        rw [subI (by rw [this, e6]; omega) (by rw [this, e6]; omega), this, e6]
      have hend : nI L - 6 < nI i := lt_int.mpr (by rw [eL, nI_toInt (by omega)]; omega)
      unfold f_L_law_b30
      rw [if_pos hend]
      exact ⟨_, rfl, rfl⟩
theorem law_pure (L : Nat) (xs : Nat → Int32) (hL : L ≤ 3073) (sd : Int64) : ∃ r0 : Int32 × St, f_L_law_b28 L xs (S0 sd) = some r0 ∧ r0.1 = 1 := by
  unfold f_L_law_b28
  exact law_loop L xs hL L 1 fuel (S0 sd) (by omega) (by omega) (fuel_gt (by omega)) (rel0 sd)
