/-! ===== perform: a trill ===== -/
theorem quot_nI {b e : Nat} (he : 0 < e) (hb : b < 2 ^ 31) (he2 : e < 2 ^ 31) (S : St) : f_X11_quotient (nI b).toInt64 (nI e).toInt64 S = some (nI (b / e), S) := by
  have hd : b / e ≤ b := Nat.div_le_self b e
  rw [nI_l hb, nI_l he2]
  have hpos : 0 < lN e := by
    have := (pk_lLT (a := 0) (b := e) (by omega) (by omega)).mpr he
    exact this
  rw [quot_eq hpos]
  have q : fqL (lN b) (lN e) = lN (b / e) := by
    unfold fqL
    have h0 : 0 ≤ lN b := (pk_lLE (a := 0) (b := b) (by omega) (by omega)).mpr (Nat.zero_le b)
    rw [pk_lDiv (by omega) he (by omega), if_pos h0]
    split <;> rfl
  rw [q]
  have e1 : (lN (b / e)).toInt32 = nI (b / e) := by
    generalize b / e = m at hd
    refine eq_int.mpr ?_
    rw [Int64.toInt_toInt32, pk_lT (by omega), bm32 (by omega) (by omega), nI_toInt (by omega)]
  rw [e1]
theorem par_nI {m : Nat} (h : m < 2 ^ 31) : (nI m - nI m / 2 * 2 = 1) ↔ m % 2 = 1 := by
  have e : nI m - nI m / 2 * 2 = nI (m % 2) := pk_rem (d := 2) h (by omega) (by omega)
  rw [e]
  exact nI_eq (b := 1) (by omega) (by omega)
theorem trill_loop {B : Int32 → Int32} {k e up w : Nat} {lo : Int32} (he : 1 ≤ e) (he2 : e ≤ 960) (hup : up ≤ 1) (hw : w ≤ 10659) (hpar : (w - 1 + up) % 2 = 0) : ∀ d i u f g S T p a b, i + d = w → 1 ≤ i → d < f → d + 1 < g → u = (i - 1 + up) % 2 → d * e + 1 ≤ b → Rel S T → Mid B S T k p a b lo → ∃ S1 T1, f_X6_addTrill_l85 (nI e) (nI w) f (nI u, nI i, S) = some (1, S1) ∧ f_X12_trill_l38 (nI k) (nI e) (nI up) (nI w) g (nI (i - 1), T) = some ((), T1) ∧ Done B k p S1 T1 := by
  intro d
  induction d with
  | zero =>
    intro i u f g S T p a b hi h1 hf hg hu hb R M
    have e1 : i = w := by omega
    subst e1
    obtain ⟨f, rfl⟩ : ∃ f1, f = f1 + 1 := ⟨f - 1, by omega⟩
    obtain ⟨g, rfl⟩ : ∃ f1, g = f1 + 1 + 1 := ⟨g - 2, by omega⟩
    obtain ⟨A1, A2, y, y1, y2, y3, y4⟩ := M.at R
    obtain ⟨S1, T1, c, m, R1, M1⟩ := part_step R M (q := y) (l := b) (by omega) (by omega) (Nat.le_refl b) 2 0 lo (by rw [y3, Int32.add_zero])
    have b1 := M.2.2.2.1.1
    have b2 := M.2.2.2.1.2
    have o1 := M.2.2.2.2.1.1
    have o2 := M.2.2.2.2.1.2
    refine ⟨S1, T1, ?_, ?_, M1.done R1 (by omega)⟩
    · show f_X6_addTrill_b85 (f_X6_addTrill_l85 (nI e) (nI i) f) (nI e) (nI i) (nI u) (nI i) S = _
      unfold f_X6_addTrill_b85
      rw [if_pos (nI_le (Nat.le_refl i) (by omega)), y4, o1, b1, c, bnd_mk]
    · show f_X12_trill_b38 (f_X12_trill_l38 (nI k) (nI e) (nI up) (nI i) (g + 1)) (nI k) (nI e) (nI up) (nI i) (nI (i - 1)) T = _
      unfold f_X12_trill_b38 f_X12_trill_b64 f_X12_trill_b85
      have z2 : nzI 2 = true := rfl
      have ew : nI i - 1 = nI (i - 1) := by
        obtain ⟨j, rfl⟩ : ∃ j, i = j + 1 := ⟨i - 1, by omega⟩
        exact nI_pred j
      rw [if_neg (nI_ge (show i - 1 < i by omega) (by omega)), chk_of z2, nI_add, if_neg (fun q => by have := (par_nI (by omega)).mp q; omega), if_pos ew.symm, o2, b2, m, bnd_mk, nI_1]
      show f_X12_trill_b38 (f_X12_trill_l38 (nI k) (nI e) (nI up) (nI i) g) (nI k) (nI e) (nI up) (nI i) (nI (i - 1 + 1)) T1 = _
      unfold f_X12_trill_b38
      rw [if_pos (nI_le (by omega) (by omega))]
  | succ d ih =>
    intro i u f g S T p a b hi h1 hf hg hu hb R M
    obtain ⟨f, rfl⟩ : ∃ f1, f = f1 + 1 := ⟨f - 1, by omega⟩
    obtain ⟨g, rfl⟩ : ∃ f1, g = f1 + 1 := ⟨g - 1, by omega⟩
    rw [Nat.succ_mul] at hb
    obtain ⟨A1, A2, y, y1, y2, y3, y4⟩ := M.at R
    have o1 := M.2.2.2.2.1.1
    have o2 := M.2.2.2.2.1.2
    have z2 : nzI 2 = true := rfl
    have ew : ¬ nI (i - 1) = nI w - 1 := by
      obtain ⟨j, rfl⟩ : ∃ j, w = j + 1 := ⟨w - 1, by omega⟩
      rw [nI_pred, nI_eq (by omega) (by omega)]; omega
    have hgo : ∀ q dy S1 T1, gA S 16 k + dy = nI q → f_X6_addPart 2 (nI q) lo (nI e) S = some ((), S1) → f_X12_sounds (nI k) 2 dy lo (nI e) T = some ((), T1) → Rel S1 T1 → Mid B S1 T1 k (p + 1) (a + e) (b - e) lo → (u = 1 ∧ q = y + 2 ∧ dy = 2 ∨ u = 0 ∧ q = y ∧ dy = 0) → ∃ S2 T2, f_X6_addTrill_l85 (nI e) (nI w) (f + 1) (nI u, nI i, S) = some (1, S2) ∧ f_X12_trill_l38 (nI k) (nI e) (nI up) (nI w) (g + 1) (nI (i - 1), T) = some ((), T2) ∧ Done B k p S2 T2 := by
      intro q dy S1 T1 hq c m R1 M1 hc
      obtain ⟨S2, T2, i1, i2, i3⟩ := ih (i + 1) (1 - u) f g S1 T1 (p + 1) (a + e) (b - e) (by omega) (by omega) (by omega) (by omega) (by omega) (by omega) R1 M1
      refine ⟨S2, T2, ?_, ?_, i3.le (by omega)⟩
      · show f_X6_addTrill_b85 (f_X6_addTrill_l85 (nI e) (nI w) f) (nI e) (nI w) (nI u) (nI i) S = _
        unfold f_X6_addTrill_b85 f_X6_addTrill_b111 f_X6_addTrill_b129
        rw [if_neg (nI_ge (show i < w by omega) (by omega)), o1, y4]
        rcases hc with ⟨rfl, rfl, rfl⟩ | ⟨rfl, rfl, rfl⟩
        · rw [if_neg (show ¬ nI 1 = 0 by decide), nI_p2, c, bnd_mk, if_neg (show ¬ nI 1 = 0 by decide), nI_1]; exact i1
        · rw [if_pos (show nI 0 = 0 from rfl), c, bnd_mk, if_pos (show nI 0 = 0 from rfl), nI_1]; exact i1
      · show f_X12_trill_b38 (f_X12_trill_l38 (nI k) (nI e) (nI up) (nI w) g) (nI k) (nI e) (nI up) (nI w) (nI (i - 1)) T = _
        unfold f_X12_trill_b38 f_X12_trill_b64 f_X12_trill_b85
        rw [if_neg (nI_ge (show i - 1 < w by omega) (by omega)), chk_of z2, nI_add, if_neg ew, if_neg ew, o2]
        have en : nI (i - 1) + 1 = nI (i + 1 - 1) := by rw [nI_1]; congr 1; omega
        rcases hc with ⟨h2, rfl, rfl⟩ | ⟨h2, rfl, rfl⟩
        · rw [if_pos ((par_nI (by omega)).mpr (by omega)), m, bnd_mk, en]; exact i2
        · rw [if_neg (fun q => by have := (par_nI (by omega)).mp q; omega), m, bnd_mk, en]; exact i2
    have hu2 : u = 1 ∨ u = 0 := by omega
    rcases hu2 with h | h
    · obtain ⟨S1, T1, c, m, R1, M1⟩ := part_step R M (q := y + 2) (l := e) (by omega) he (by omega) 2 2 lo (by rw [y3, nI_p2])
      exact hgo (y + 2) 2 S1 T1 (by rw [y3, nI_p2]) c m R1 M1 (Or.inl ⟨h, rfl, rfl⟩)
    · obtain ⟨S1, T1, c, m, R1, M1⟩ := part_step R M (q := y) (l := e) (by omega) he (by omega) 2 0 lo (by rw [y3, Int32.add_zero])
      exact hgo y 0 S1 T1 (by rw [y3, Int32.add_zero]) c m R1 M1 (Or.inr ⟨h, rfl, rfl⟩)
theorem trill_step {B : Int32 → Int32} {S T : St} {k p a b : Nat} {lo : Int32} (R : Rel S T) (M : Mid B S T k p a b lo) (hb : 1 ≤ b) : ∃ S1 T1, f_X6_addParts_b29 S = some ((), S1) ∧ f_X12_performNote_b153 (nI k) T = some ((), T1) ∧ Done B k p S1 T1 := by
  have P := turn_step R M hb
  obtain ⟨A1, A2, y, y1, y2, y3, y4⟩ := M.at R
  have k48 : k < 48 := M.2.2.2.2.2.2.2.2.1
  have b1 := M.2.2.2.1.1
  have b2 := M.2.2.2.1.2
  have habm := M.2.2.2.2.2.1
  have hpb := M.2.2.2.2.2.2.1
  have g1 : inb (nI k) 48 = true := inb_nI k48 (by omega)
  have g2 : (nI k).toNatClampNeg = k := nI_clamp (by omega)
  obtain ⟨e, e1, e2, c1, c2⟩ := M.num R (m := 7) (l := 1) (h := 960) (by omega) (by decide) (by decide) (by omega) (by omega)
  have c1 : f_X8_numberFor (gI S 13) 7 S = some (nI e, S) := c1
  have c2 : f_X12_number (gA T 49 k) 7 T = some (nI e, T) := c2
  have hbb : b ≤ 10659 := by omega
  have hq1 : b / e ≤ b := Nat.div_le_self b e
  have ze : nzI (nI e) = true := decide_eq_true (nI_ne0 (by omega) (by omega))
  unfold f_X6_addParts_b29 f_X12_performNote_b153
  rw [mark_C, chk_of g1]
  simp only [rd, g2, c2, bnd_mk, mark_M k48, A2]
  by_cases h1 : gI S 15 &&& 8 = 0
  · simp only [if_pos h1, reduceIte]; exact P
  simp only [if_neg h1, if_neg (show ¬ (1 : Int32) = 0 by decide), chk_of ze, b2, pk_div (show b < 2 ^ 31 by omega) (show 0 < e by omega) (show e < 2 ^ 31 by omega)]
  unfold f_X6_addTrill f_X6_addTrill_b0
  rw [c1, bnd_mk, b1, quot_nI (by omega) (by omega) (by omega), bnd_mk]
  have hq960 : b / e ≤ 960 ∨ 960 < b / e := by omega
  by_cases h2 : b / e < 2
  · rw [if_pos (show nI (b / e) < 2 from nI_lt (b := 2) h2 (by omega)), if_neg (show ¬ (2 : Int32) ≤ nI (b / e) from nI_ge (b := 2) h2 (by omega)), bnd_mk, if_pos rfl]
    exact P
  obtain ⟨up, u1, u2, d1, d2⟩ := M.num R (m := 8) (l := 0) (h := 1) (by omega) (by decide) (by decide) (by omega) (by omega)
  have d1 : f_X8_numberFor (gI S 13) 8 S = some (nI up, S) := d1
  have d2 : f_X12_number (gA T 49 k) 8 T = some (nI up, T) := d2
  have hqe : b / e * e ≤ b := Nat.div_mul_le_self b e
  generalize hq : b / e = q at *
  rw [if_neg (show ¬ nI q < 2 from nI_nlt (a := q) (b := 2) (by omega) (by omega)), if_pos (show (2 : Int32) ≤ nI q from nI_le (a := 2) (by omega) (by omega)), d1, bnd_mk]
  unfold f_X12_trill f_X12_trill_b0 f_X12_trill_b33
  have z2 : nzI 2 = true := rfl
  have eq1 : nI q - 1 = nI (q - 1) := by
    obtain ⟨j, rfl⟩ : ∃ j, q = j + 1 := ⟨q - 1, by omega⟩
    exact nI_pred j
  have eqm : nI q + (-1) = nI (q - 1) := by
    obtain ⟨j, rfl⟩ : ∃ j, q = j + 1 := ⟨q - 1, by omega⟩
    exact pk_m1 j
  simp only [chk_of g1, rd, g2, d2, bnd_mk, chk_of z2, eq1, nI_add]
  -- how many parts
  have go : ∀ w, w ≤ q → 1 ≤ w → (w - 1 + up) % 2 = 0 → ∃ S1 T1, f_X6_addTrill_b82 (nI e) (nI w) (nI up) S = some (1, S1) ∧ f_X12_trill_l38 (nI k) (nI e) (nI up) (nI w) fuel (0, T) = some ((), T1) ∧ Done B k p S1 T1 := by
    intro w hw hw1 hpar
    have k1 : w * e ≤ q * e := Nat.mul_le_mul_right e hw
    have k2 : (w - 1) * e + e = w * e := by
      obtain ⟨j, rfl⟩ : ∃ j, w = j + 1 := ⟨w - 1, by omega⟩
      rw [Nat.add_sub_cancel, Nat.succ_mul]
    have hw9 : w ≤ 10659 := by omega
    unfold f_X6_addTrill_b82
    exact trill_loop e1 e2 u2 hw9 hpar (w - 1) 1 up fuel fuel S T p a b (by omega) (by omega) (fuel_gt (by omega)) (fuel_gt (by omega)) (by omega) (by omega) R M
  have fin : ∀ w, w ≤ q → 1 ≤ w → (w - 1 + up) % 2 = 0 → f_X6_addTrill_b48 (nI e) (nI q) (nI up) S = f_X6_addTrill_b82 (nI e) (nI w) (nI up) S → (if nI (q - 1 + up) - nI (q - 1 + up) / 2 * 2 = 1 then f_X12_trill_l38 (nI k) (nI e) (nI up) (nI (q - 1)) fuel (0, T) else f_X12_trill_l38 (nI k) (nI e) (nI up) (nI q) fuel (0, T)) = f_X12_trill_l38 (nI k) (nI e) (nI up) (nI w) fuel (0, T) → ∃ S1 T1, bnd (if nI up = 1 then f_X6_addTrill_b48 (nI e) (nI q) 1 S else f_X6_addTrill_b48 (nI e) (nI q) 0 S) (fun r13 S12 => if r13 = 0 then f_X6_addParts_b47 S12 else some ((), S12)) = some ((), S1) ∧ bnd (if nI (q - 1 + up) - nI (q - 1 + up) / 2 * 2 = 1 then f_X12_trill_l38 (nI k) (nI e) (nI up) (nI (q - 1)) fuel (0, T) else f_X12_trill_l38 (nI k) (nI e) (nI up) (nI q) fuel (0, T)) (fun _u28 S28 => f_X12_performNote_b299 S28) = some ((), T1) ∧ Done B k p S1 T1 := by
    intro w w1 w2 w3 w4 w5
    obtain ⟨S1, T1, x1, x2, x3⟩ := go w w1 w2 w3
    rw [w5, x2, bnd_mk]
    have e48 : (if nI up = 1 then f_X6_addTrill_b48 (nI e) (nI q) 1 S else f_X6_addTrill_b48 (nI e) (nI q) 0 S) = f_X6_addTrill_b48 (nI e) (nI q) (nI up) S := by
      have : up = 0 ∨ up = 1 := by omega
      rcases this with rfl | rfl <;> rfl
    rw [e48, w4, x1, bnd_mk, if_neg (show ¬ (1 : Int32) = 0 by decide)]
    exact ⟨_, _, rfl, rfl, x3⟩
  by_cases hp : (q - 1 + up) % 2 = 1
  · refine fin (q - 1) (by omega) (by omega) (by omega) ?_ (if_pos ((par_nI (by omega)).mpr hp))
    unfold f_X6_addTrill_b48 f_X6_addTrill_b62 f_X6_addTrill_b72
    rw [chk_of z2]
    have : up = 0 ∨ up = 1 := by omega
    rcases this with rfl | rfl
    · rw [if_neg (fun h => by have := (par_nI (by omega)).mp h; omega), if_pos (show (0 : Int32) = nI 0 from rfl), if_neg (show ¬ (1 : Int32) = 0 by decide), eqm]
    · rw [if_pos ((par_nI (by omega)).mpr (by omega)), if_pos (show (1 : Int32) = nI 1 from rfl), if_neg (show ¬ (1 : Int32) = 0 by decide), eqm]
  · refine fin q (by omega) (by omega) (by omega) ?_ (if_neg (fun h => hp ((par_nI (by omega)).mp h)))
    unfold f_X6_addTrill_b48 f_X6_addTrill_b62 f_X6_addTrill_b72
    rw [chk_of z2]
    have : up = 0 ∨ up = 1 := by omega
    rcases this with rfl | rfl
    · rw [if_pos ((par_nI (by omega)).mpr (by omega)), if_neg (show ¬ (1 : Int32) = nI 0 by decide), if_pos rfl]
    · rw [if_neg (fun h => by have := (par_nI (by omega)).mp h; omega), if_neg (show ¬ (0 : Int32) = nI 1 by decide), if_pos rfl]
