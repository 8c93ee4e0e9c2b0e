/-! ===== perform: how loud a note is ===== -/
theorem mult_C {a b : Nat} (hb : 0 < b) (ha : a < 2 ^ 31) (hb2 : b < 2 ^ 31) (S : St) : f_X9_isMultiple (nI a) (nI b) S = some (if a % b = 0 then 1 else 0, S) := by
  unfold f_X9_isMultiple f_X9_isMultiple_b0 f_X9_isMultiple_b14 f_X9_isMultiple_b15
  have i0 : isB 0 = true := rfl
  have i1 : isB 1 = true := rfl
  have hz : nzI (nI b) = true := decide_eq_true (nI_ne0 hb hb2)
  rw [if_neg (nI_nle hb hb2), chk_of hz, pk_rem ha hb hb2, chk_of i0, chk_of i1]
  have hlt : a % b < b := Nat.mod_lt _ hb
  by_cases h : a % b = 0
  · rw [h, if_pos (show nI 0 = 0 from rfl), if_pos rfl]
  · rw [if_neg h, if_neg (nI_ne0 (by omega) (by omega))]
theorem mult_M {a b : Nat} (hb : 0 < b) (ha : a < 2 ^ 31) (hb2 : b < 2 ^ 31) : nzI (nI b) = true ∧ ((nI a - nI a / nI b * nI b = 0) ↔ a % b = 0) := by
  refine ⟨decide_eq_true (nI_ne0 hb hb2), ?_⟩
  rw [pk_rem ha hb hb2]
  have hlt : a % b < b := Nat.mod_lt _ hb
  constructor
  · intro h
    rcases Nat.eq_zero_or_pos (a % b) with z | z
    · exact z
    · exact absurd h (nI_ne0 z (by omega))
  · intro h; rw [h]; rfl
theorem clamp_eq (v : Int32) : imax 1 (imin 127 v) = if 1 ≤ v then imin v 127 else 1 := by
  have e1 : (1 : Int32).toInt = 1 := rfl
  have e127 : (127 : Int32).toInt = 127 := rfl
  refine eq_int.mpr ?_
  rw [imax_int, imin_int, e1, e127]
  by_cases h : 1 ≤ v
  · rw [if_pos h, imin_int, e127]
    have := le_int.mp h
    rw [e1] at this
    split <;> split <;> split <;> omega
  · rw [if_neg h, e1]
    have h2 : ¬ 1 ≤ v.toInt := fun q => h (le_int.mpr q)
    split <;> split <;> omega
theorem loud_both {S T : St} (RN : RNotes S T) (RR : RRules S T) (RM : RMeter S T) (RL : RLevels S T) {k n : Nat} (hn : gI S 2 = nI n) (hn48 : n ≤ 48) (hk : k < n) (tk : Taken S k) : ∃ v, f_X6_loudOf (gA S 14 k) S = some (v, S) ∧ f_X12_loudOf (nI k) T = some (v, T) := by
  have RN0 := RN
  obtain ⟨n2, h48, e1, e2, hh⟩ := RN
  have e : n2 = n := (nI_eq (by omega) (by omega)).mp (e1.symm.trans hn)
  subst e
  obtain ⟨⟨q1, q2, q3, q4, q5⟩, ok⟩ := hh k hk
  obtain ⟨t, t1, et⟩ := (upto (n := 9600) rfl (by omega)).mp ok.2.1
  obtain ⟨M1, M2, ⟨M3, M4⟩, M5, M6⟩ := RM
  obtain ⟨bt, b1, b2, eb⟩ := num_nat (a := 1) (c := 12) M3 M4 (by omega) (by omega)
  obtain ⟨un, u1, u2, eu⟩ := num_nat (a := 1) (c := 960) M5 M6 (by omega) (by omega)
  have g1 : inb (nI k) 48 = true := inb_nI (by omega) (by omega)
  have g2 : (nI k).toNatClampNeg = k := nI_clamp (by omega)
  have hk48 : k < 48 := by omega
  have hbu : bt * un ≤ 12 * 960 := Nat.mul_le_mul b2 u2
  have hbu0 : 0 < bt * un := Nat.mul_pos (by omega) (by omega)
  obtain ⟨lv, l1, l2⟩ := RL.at (gA S 14 k)
  obtain ⟨x4, c1, c2, -, -⟩ := num_note RN0 RR hn hn48 hk (show 4 < 13 by omega)
  obtain ⟨x5, c3, c4, -, -⟩ := num_note RN0 RR hn hn48 hk (show 5 < 13 by omega)
  obtain ⟨x6, c5, c6, -, -⟩ := num_note RN0 RR hn hn48 hk (show 6 < 13 by omega)
  have c1 : f_X8_numberFor (gA S 13 k) 4 S = some (x4, S) := c1
  have c2 : f_X12_number (gA S 13 k) 4 T = some (x4, T) := c2
  have c3 : f_X8_numberFor (gA S 13 k) 5 S = some (x5, S) := c3
  have c4 : f_X12_number (gA S 13 k) 5 T = some (x5, T) := c4
  have c5 : f_X8_numberFor (gA S 13 k) 6 S = some (x6, S) := c5
  have c6 : f_X12_number (gA S 13 k) 6 T = some (x6, T) := c6
  obtain ⟨z1, z2⟩ := mult_M (a := t) (b := bt * un) hbu0 (by omega) (by omega)
  obtain ⟨z3, z4⟩ := mult_M (a := t) (b := un) (by omega) (by omega) (by omega)
  have i0 : isB 0 = true := rfl
  have i1 : isB 1 = true := rfl
  have go : ∀ v : Int32, ∃ w, f_X6_loudOf_b32 (gA S 14 k) v S = some (w, S) ∧ ∀ a c, a + c = v → f_X12_loudOf_b36 (nI k) a c T = some (w, T) := by
    intro v
    have fin : ∀ a c w, a + c = w → f_X12_loudOf_b102 a c T = some (imax 1 (imin 127 w), T) := by
      intro a c w h
      unfold f_X12_loudOf_b102 f_X12_loudOf_b119
      rw [vlet_eq, h, lesser_eq, bnd_mk, clamp_eq]
      split <;> rfl
    have bar : f_X9_beginsBar (nI t) S = some (if t % (bt * un) = 0 then 1 else 0, S) := by
      unfold f_X9_beginsBar f_X9_beginsBar_b0
      rw [eb, eu, pk_mul, mult_C hbu0 (by omega) (by omega), bnd_mk, chk_of isB_ite]
    have beat : f_X9_beginsBeat (nI t) S = some (if t % un = 0 then 1 else 0, S) := by
      unfold f_X9_beginsBeat f_X9_beginsBeat_b0
      rw [eu, mult_C (by omega) (by omega) (by omega), bnd_mk, chk_of isB_ite]
    unfold f_X6_loudOf_b32 f_X6_loudOf_b80 f_X12_loudOf_b36
    simp only [bar, beat, bnd_mk, tk.2.1, c3, c5, vlet_eq, ite01, chk_of g1, rd, g2, q1, q2, c4, c6, M1, M2, eb, eu, pk_mul, et, chk_of z1, chk_of z3]
    by_cases h1 : t % (bt * un) = 0
    · simp only [if_pos h1, if_pos (z2.mpr h1)]
      exact ⟨_, rfl, fun a c h => fin _ _ _ (by rw [h])⟩
    · simp only [if_neg h1, if_neg (fun q => h1 (z2.mp q))]
      by_cases h2 : t % un = 0
      · simp only [if_pos h2, if_pos (z4.mpr h2)]
        exact ⟨_, rfl, fun a c h => fin _ _ _ (by rw [h])⟩
      · simp only [if_neg h2, if_neg (fun q => h2 (z4.mp q))]
        exact ⟨_, rfl, fun a c h => fin _ _ _ (by rw [h, Int32.add_zero])⟩
  unfold f_X6_loudOf f_X6_loudOf_b0 f_X12_loudOf f_X12_loudOf_b0
  simp only [l1, bnd_mk, mark_C, mark_M hk48, tk.2.2.2, tk.2.1, q5, chk_of g1, rd, g2, q1, q2, l2, c1, c2, vlet_eq]
  by_cases m4 : gA S 17 k &&& 4 = 0
  · simp only [if_pos m4, reduceIte]
    obtain ⟨w, w1, w2⟩ := go lv
    exact ⟨w, w1, w2 _ _ (Int32.add_zero _)⟩
  · simp only [if_neg m4, if_neg (show ¬ (1 : Int32) = 0 by decide)]
    obtain ⟨w, w1, w2⟩ := go (lv + x4)
    exact ⟨w, w1, w2 _ _ rfl⟩
