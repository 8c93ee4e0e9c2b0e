/-! what a note in the middle of its parts knows -/
theorem Mid.at {B : Int32 → Int32} {S T : St} {k p a b : Nat} {lo : Int32} (R : Rel S T) (M : Mid B S T k p a b lo) : gA T 49 k = gI S 13 ∧ gA T 53 k = gI S 15 ∧ ∃ y, 12 ≤ y ∧ y ≤ 115 ∧ gA S 16 k = nI y ∧ gI S 14 = nI y := by
  obtain ⟨-, ⟨t1, t2, t3, t4⟩, -, -, -, -, -, -, k48, hk2⟩ := M
  obtain ⟨n, hn, q1, q2, q3⟩ := R.1
  have hkn : k < n := by rw [q1] at hk2; exact (nI_ltI (by omega) (by omega)).mp hk2
  obtain ⟨⟨h1, h2, h3, h4, h5⟩, ok⟩ := q3 k hkn
  obtain ⟨y, y1, y2, y3⟩ := num_nat (a := 12) (c := 115) ok.2.2.2.1.1 ok.2.2.2.1.2 (by omega) (by omega)
  exact ⟨h1.trans t2.symm, h5.trans t4.symm, y, y1, y2, y3, t3.trans y3⟩
theorem Mid.num {B : Int32 → Int32} {S T : St} {k p a b : Nat} {lo : Int32} (R : Rel S T) (M : Mid B S T k p a b lo) {m l h : Nat} (hm : m < 13) (hl : nI l ≤ tbr 1 (nI m)) (hh : tbr 2 (nI m) ≤ nI h) (hlh : l ≤ h) (hh2 : h < 2 ^ 31) : ∃ x, l ≤ x ∧ x ≤ h ∧ f_X8_numberFor (gI S 13) (nI m) S = some (nI x, S) ∧ f_X12_number (gA T 49 k) (nI m) T = some (nI x, T) := by
  have A := M.at R
  obtain ⟨-, ⟨t1, t2, t3, t4⟩, -, -, -, -, -, -, k48, hk2⟩ := M
  obtain ⟨n, hn, q1, q2, q3⟩ := R.1
  have hkn : k < n := by rw [q1] at hk2; exact (nI_ltI (by omega) (by omega)).mp hk2
  obtain ⟨x, c1, c2, c3, c4⟩ := num_note R.1 R.2.2.2.2.2.1 q1 hn hkn hm
  obtain ⟨j, j1, j2, rfl⟩ := num_nat (Int32.le_trans hl c3) (Int32.le_trans c4 hh) hh2 hlh
  rw [A.1, t2]
  exact ⟨j, j1, j2, c1, c2⟩
/-- both are through with a note -/
def Done (B : Int32 → Int32) (k p0 : Nat) (S T : St) : Prop := Rel S T ∧ (∃ p, p0 ≤ p ∧ Ps B S T p k ∧ p ≤ 960 * (k + 1)) ∧ BB S = B
theorem Done.le {B : Int32 → Int32} {k p0 p1 : Nat} {S T : St} (D : Done B k p1 S T) (h : p0 ≤ p1) : Done B k p0 S T := by
  obtain ⟨a, ⟨p, p2, p3, p4⟩, b⟩ := D
  exact ⟨a, ⟨p, by omega, p3, p4⟩, b⟩
theorem Mid.done {B : Int32 → Int32} {S T : St} {k p a b p0 : Nat} {lo : Int32} (R : Rel S T) (M : Mid B S T k p a b lo) (h0 : p0 ≤ p) : Done B k p0 S T := by
  obtain ⟨hP, -, -, -, -, -, h, hB, -, -⟩ := M
  exact ⟨R, ⟨p, h0, hP, by omega⟩, hB⟩
theorem nI_m2 {y : Nat} (h : 2 ≤ y) : nI y - 2 = nI (y - 2) := pk_sub h
theorem nI_am2 {y : Nat} (h : 2 ≤ y) : nI y + -2 = nI (y - 2) := by
  rw [← nI_m2 h, Int32.sub_eq_add_neg]
theorem nI_p2 (y : Nat) : nI y + 2 = nI (y + 2) := nI_add y 2
theorem plain_step {B : Int32 → Int32} {S T : St} {k p a b : Nat} {lo : Int32} (R : Rel S T) (M : Mid B S T k p a b lo) (hb : 1 ≤ b) : ∃ S1 T1, f_X6_addParts_b65 S = some ((), S1) ∧ f_X12_performNote_b284 (nI k) T = some ((), T1) ∧ Done B k p S1 T1 := by
  obtain ⟨A1, A2, y, y1, y2, y3, y4⟩ := M.at R
  obtain ⟨S1, T1, c, m, R1, M1⟩ := part_step R M (q := y) (l := b) (by omega) hb (Nat.le_refl b) 0 0 lo (by rw [y3, Int32.add_zero])
  obtain ⟨-, -, -, ⟨b1, b2⟩, ⟨o1, o2⟩, -, -, -, -, -⟩ := M
  unfold f_X6_addParts_b65 f_X12_performNote_b284 f_X12_performNote_b299
  rw [y4, o1, b1, c, bnd_mk, o2, b2, m, bnd_mk]
  exact ⟨_, _, rfl, rfl, M1.done R1 (by omega)⟩
theorem turn_step {B : Int32 → Int32} {S T : St} {k p a b : Nat} {lo : Int32} (R : Rel S T) (M : Mid B S T k p a b lo) (hb : 1 ≤ b) : ∃ S1 T1, f_X6_addParts_b47 S = some ((), S1) ∧ f_X12_performNote_b201 (nI k) T = some ((), T1) ∧ Done B k p S1 T1 := by
  have P := plain_step R M hb
  obtain ⟨A1, A2, y, y1, y2, y3, y4⟩ := M.at R
  have k48 : k < 48 := M.2.2.2.2.2.2.2.2.1
  have b1 := M.2.2.2.1.1
  have b2 := M.2.2.2.1.2
  have o1 := M.2.2.2.2.1.1
  have o2 := M.2.2.2.2.1.2
  have habm := M.2.2.2.2.2.1
  unfold f_X6_addParts_b47 f_X12_performNote_b201
  rw [mark_C, mark_M k48, A2, bnd_mk, bnd_mk]
  by_cases h1 : gI S 15 &&& 16 = 0
  · simp only [if_pos h1, reduceIte]; exact P
  simp only [if_neg h1, if_neg (show ¬ (1 : Int32) = 0 by decide)]
  unfold f_X6_addTurn f_X6_addTurn_b0
  by_cases h2 : b < 3
  · rw [b1, b2, if_pos (show nI b < 3 from nI_lt (b := 3) h2 (by omega)), if_neg (show ¬ (3 : Int32) ≤ nI b from nI_ge (b := 3) h2 (by omega)), bnd_mk, if_pos rfl]
    exact P
  have g1 : inb (nI k) 48 = true := inb_nI k48 (by omega)
  have g2 : (nI k).toNatClampNeg = k := nI_clamp (by omega)
  have z3 : nzI 3 = true := rfl
  obtain ⟨t, t1, t2, c1, c2⟩ := M.num R (m := 9) (l := 1) (h := 960) (by omega) (by decide) (by decide) (by omega) (by omega)
  have c1 : f_X8_numberFor (gI S 13) 9 S = some (nI t, S) := c1
  have c2 : f_X12_number (gA T 49 k) 9 T = some (nI t, T) := c2
  have d3 : nI b / 3 = nI (b / 3) := pk_div (d := 3) (by omega) (by omega) (by omega)
  rw [b1, b2, if_neg (show ¬ nI b < 3 from nI_nlt (a := b) (b := 3) (by omega) (by omega)), if_pos (show (3 : Int32) ≤ nI b from nI_le (a := 3) (by omega) (by omega)), c1, bnd_mk, chk_of z3, b1, d3, imin_nI (by omega) (by omega), vlet_eq, chk_of g1]
  simp only [rd, g2, c2, bnd_mk, chk_of z3, b2, d3, lesser_eq]
  rw [imin_nI (by omega) (by omega)]
  generalize hu : (if b / 3 < t then b / 3 else t) = u
  have hu1 : 1 ≤ u ∧ 3 * u ≤ b := by split at hu <;> omega
  obtain ⟨S1, T1, e1, f1, R1, M1⟩ := part_step R M (q := y) (l := u) (by omega) hu1.1 (by omega) 3 0 lo (by rw [y3, Int32.add_zero])
  rw [y4, o1, o2, e1, f1, bnd_mk, bnd_mk]
  obtain ⟨A1', A2', y', y1', y2', y3', y4'⟩ := M1.at R1
  obtain ⟨S2, T2, e2, f2, R2, M2⟩ := part_step R1 M1 (q := y' - 2) (l := u) (by omega) hu1.1 (by omega) 3 (-2) lo (by rw [y3', nI_am2 (by omega)])
  rw [y4', nI_m2 (by omega), M1.2.2.2.2.1.1, M1.2.2.2.2.1.2, e2, f2, bnd_mk, bnd_mk]
  obtain ⟨A1q, A2q, yq, y1q, y2q, y3q, y4q⟩ := M2.at R2
  obtain ⟨S3, T3, e3, f3, R3, M3⟩ := part_step R2 M2 (q := yq) (l := b - u - u) (by omega) (by omega) (Nat.le_refl _) 3 0 lo (by rw [y3q, Int32.add_zero])
  rw [y4q, M2.2.2.2.2.1.1, M2.2.2.2.2.1.2, M2.2.2.2.1.1, M2.2.2.2.1.2, e3, f3, bnd_mk, bnd_mk, bnd_mk, if_neg (show ¬ (1 : Int32) = 0 by decide)]
  unfold f_X12_performNote_b299
  exact ⟨_, _, rfl, rfl, M3.done R3 (by omega)⟩
