/-! ===== perform: a leaning part; a rolled chord; a whole note ===== -/
theorem imax_1 (x : Int32) : (if 1 ≤ x then x else 1) = imax 1 x := imax_if (fun y => y) x
theorem lean_step {B : Int32 → Int32} {S T : St} {k p a b : Nat} {lo : Int32} (R : Rel S T) (M : Mid B S T k p a b lo) (hb : 1 ≤ b) : ∃ S1 T1, f_X6_addParts_b15 S = some ((), S1) ∧ f_X12_performNote_b85 (nI k) T = some ((), T1) ∧ Done B k p S1 T1 := by
  have P := trill_step R M hb
  obtain ⟨A1, A2, y, y1, y2, y3, y4⟩ := M.at R
  have k48 : k < 48 := M.2.2.2.2.2.2.2.2.1
  have b1 := M.2.2.2.1.1
  have b2 := M.2.2.2.1.2
  have o1 := M.2.2.2.2.1.1
  have o2 := M.2.2.2.2.1.2
  have habm := M.2.2.2.2.2.1
  have g1 : inb (nI k) 48 = true := inb_nI k48 (by omega)
  have g2 : (nI k).toNatClampNeg = k := nI_clamp (by omega)
  have z2 : nzI 2 = true := rfl
  have z4 : nzI 4 = true := rfl
  obtain ⟨t, t1, t2, c1, c2⟩ := M.num R (m := 10) (l := 0) (h := 960) (by omega) (by decide) (by decide) (by omega) (by omega)
  have c1 : f_X8_numberFor (gI S 13) 10 S = some (nI t, S) := c1
  have c2 : f_X12_number (gA T 49 k) 10 T = some (nI t, T) := c2
  have d2 : nI b / 2 = nI (b / 2) := pk_div (d := 2) (by omega) (by omega) (by omega)
  unfold f_X6_addParts_b15 f_X12_performNote_b85
  rw [mark_C, mark_M k48, A2, bnd_mk, bnd_mk]
  by_cases h1 : gI S 15 &&& 32 = 0
  · simp only [if_pos h1, reduceIte]; exact P
  simp only [if_neg h1, if_neg (show ¬ (1 : Int32) = 0 by decide)]
  unfold f_X6_addLean f_X6_addLean_b0 f_X6_addLean_b48
  rw [c1, bnd_mk, chk_of z2, b1, d2, imin_nI (by omega) (by omega), vlet_eq, chk_of g1]
  simp only [rd, g2, c2, bnd_mk, chk_of z2, b2, d2, lesser_eq, chk_of z4]
  rw [imin_nI (by omega) (by omega)]
  generalize hu : (if b / 2 < t then b / 2 else t) = u
  have hu1 : 2 * u ≤ b := by split at hu <;> omega
  by_cases h0 : u = 0
  · subst h0
    rw [if_pos (show nI 0 ≤ 0 from Int32.le_refl _), if_pos (show nI 0 ≤ 0 from Int32.le_refl _), bnd_mk]
    exact P
  rw [if_neg (nI_nle (by omega) (by omega)), if_neg (nI_nle (by omega) (by omega))]
  have em : f_X12_performNote_b149 (nI k) (nI u) (nI k) 1 2 (imax 1 (gI T 37 * 3 / 4)) T = bnd (f_X12_sounds (nI k) 1 2 (imax 1 (lo * 3 / 4)) (nI u) T) (fun _u33 S33 => f_X12_performNote_b153 (nI k) S33) := by
    unfold f_X12_performNote_b149; rw [o2]
  obtain ⟨S1, T1, e1, f1, R1, M1⟩ := part_step R M (q := y + 2) (l := u) (by omega) (by omega) (by omega) 1 2 (imax 1 (lo * 3 / 4)) (by rw [y3, nI_p2])
  obtain ⟨S2, T2, x1, x2, x3⟩ := trill_step R1 M1 (by omega)
  have e2 : (if 1 ≤ gI T 37 * 3 / 4 then f_X12_performNote_b149 (nI k) (nI u) (nI k) 1 2 (gI T 37 * 3 / 4) T else f_X12_performNote_b149 (nI k) (nI u) (nI k) 1 2 1 T) = f_X12_performNote_b149 (nI k) (nI u) (nI k) 1 2 (imax 1 (gI T 37 * 3 / 4)) T := imax_if (fun z => f_X12_performNote_b149 (nI k) (nI u) (nI k) 1 2 z T) _
  rw [e2, em, y4, nI_p2, o1, e1, bnd_mk, bnd_mk, f1, bnd_mk]
  exact ⟨_, _, x1, x2, x3.le (by omega)⟩
theorem roll_step {B : Int32 → Int32} {S T : St} {k p a b : Nat} {lo : Int32} (R : Rel S T) (M : Mid B S T k p a b lo) (hb : 1 ≤ b) : ∃ g, g < b ∧ f_X6_roll S = some ((), pI (pI S 17 (nI (a + g))) 18 (nI (b - g))) ∧ ∃ c r, f_X12_rolledAhead (nI k) T = some (nI c, T) ∧ f_X12_number (gA T 49 k) 11 T = some (nI r, T) ∧ imin (nI c * nI r) (nI b - 1) = nI g := by
  have A1 := (M.at R).1
  have k48 : k < 48 := M.2.2.2.2.2.2.2.2.1
  have hk2 : nI k < gI S 2 := M.2.2.2.2.2.2.2.2.2
  have a1 := M.2.2.1.1
  have b1 := M.2.2.2.1.1
  have tk := M.2.1.1
  have habm := M.2.2.2.2.2.1
  obtain ⟨n, hn, q1, q2, q3⟩ := R.1
  have hkn : k < n := by rw [q1] at hk2; exact (nI_ltI (by omega) (by omega)).mp hk2
  obtain ⟨c, hc, c1, c2⟩ := roll_key hn hkn q1 q2 (fun j h => (q3 j h).1) n 0 fuel fuel 0 (by omega) (fuel_gt (by omega)) (fuel_gt (by omega)) (Nat.le_refl _)
  have c1 : f_X4_rolledAhead (nI k) S = some (nI c, S) := c1
  have c2 : f_X12_rolledAhead (nI k) T = some (nI c, T) := c2
  obtain ⟨r, r1, r2, d1, d2⟩ := M.num R (m := 11) (l := 0) (h := 960) (by omega) (by decide) (by decide) (by omega) (by omega)
  have d1 : f_X8_numberFor (gI S 13) 11 S = some (nI r, S) := d1
  have d2 : f_X12_number (gA T 49 k) 11 T = some (nI r, T) := d2
  have hcr : c * r ≤ 48 * 960 := Nat.mul_le_mul hc r2
  have eb : nI b - 1 = nI (b - 1) := by
    obtain ⟨j, rfl⟩ : ∃ j, b = j + 1 := ⟨b - 1, by omega⟩
    exact nI_pred j
  have em : imin (nI c * nI r) (nI b - 1) = nI (if b - 1 < c * r then b - 1 else c * r) := by
    rw [eb, pk_mul, imin_nI (by omega) (by omega)]
  generalize hg : (if b - 1 < c * r then b - 1 else c * r) = g at em
  have hgb : g < b := by split at hg <;> omega
  refine ⟨g, hgb, ?_, c, r, c2, d2, em⟩
  unfold f_X6_roll f_X6_roll_b0
  rw [tk, c1, bnd_mk, d1, bnd_mk, b1, em, vlet_eq, vlet_eq, vlet_eq, a1, nI_add]
  simp only [gI_pI, Nat.reduceEqDiff, reduceIte]
  rw [b1, sub_nI (by omega)]
theorem parts_step {B : Int32 → Int32} {S T : St} {k p a b : Nat} {lo : Int32} (R : Rel S T) (M : Mid B S T k p a b lo) (hb : 1 ≤ b) : ∃ S1 T1, f_X6_addParts S = some ((), S1) ∧ (bnd (f_X12_has (nI k) 64 T) (fun r11 S10 => if r11 = 0 then (f_X12_performNote_b85 (nI k) S10) else (bnd (f_X12_rolledAhead (nI k) S10) (fun r35 S34 => chk (inb (nI k) 48) (bnd (f_X12_number (rd S34 49 (nI k)) 11 S34) (fun r37 S36 => bnd (f_X12_lesser (r35 * r37) ((gI S36 36) - 1) S36) (fun r39 S38 => vlet (pI S38 35 ((gI S38 35) + r39)) (fun S40 => vlet (pI S40 36 ((gI S40 36) - r39)) (fun S41 => f_X12_performNote_b85 (nI k) S41))))))))) = some ((), T1) ∧ Done B k p S1 T1 := by
  have P := lean_step R M hb
  obtain ⟨A1, A2, y, y1, y2, y3, y4⟩ := M.at R
  have k48 : k < 48 := M.2.2.2.2.2.2.2.2.1
  have g1 : inb (nI k) 48 = true := inb_nI k48 (by omega)
  have g2 : (nI k).toNatClampNeg = k := nI_clamp (by omega)
  unfold f_X6_addParts f_X6_addParts_b0
  rw [mark_C, mark_M k48, A2, bnd_mk, bnd_mk]
  by_cases h1 : gI S 15 &&& 64 = 0
  · simp only [if_pos h1, reduceIte]; exact P
  simp only [if_neg h1, if_neg (show ¬ (1 : Int32) = 0 by decide)]
  obtain ⟨g, hg, e1, c, r, e2, e3, e4⟩ := roll_step R M hb
  rw [e1, bnd_mk, e2, bnd_mk, chk_of g1]
  simp only [rd, g2, e3, bnd_mk, lesser_eq, vlet_eq]
  have a2 := M.2.2.1.2
  have b2 := M.2.2.2.1.2
  have et : pI (pI T 35 (gI T 35 + imin (nI c * nI r) (gI T 36 - 1))) 36 (gI (pI T 35 (gI T 35 + imin (nI c * nI r) (gI T 36 - 1))) 36 - imin (nI c * nI r) (gI T 36 - 1)) = pI (pI T 35 (nI (a + g))) 36 (nI (b - g)) := by
    have : gI (pI T 35 (gI T 35 + imin (nI c * nI r) (gI T 36 - 1))) 36 = gI T 36 := rfl
    rw [this, b2, e4, a2, nI_add, sub_nI (by omega)]
  rw [et]
  have F : Fr Wc S (pI (pI S 17 (nI (a + g))) 18 (nI (b - g))) := (Fr.pI rfl rfl : Fr Wc S (pI S 17 (nI (a + g)))).trans (Fr.pI rfl rfl)
  have G : Fr Wm T (pI (pI T 35 (nI (a + g))) 36 (nI (b - g))) := (Fr.pI rfl rfl : Fr Wm T (pI T 35 (nI (a + g)))).trans (Fr.pI rfl rfl)
  obtain ⟨hP, tk, ⟨a1, a2⟩, ⟨b1, b2⟩, ⟨o1, o2⟩, hab, hpb, hB, k48, hk2⟩ := M
  have M1 : Mid B (pI (pI S 17 (nI (a + g))) 18 (nI (b - g))) (pI (pI T 35 (nI (a + g))) 36 (nI (b - g))) k p (a + g) (b - g) lo := by
    refine ⟨hP, tk, ⟨rfl, rfl⟩, ⟨rfl, rfl⟩, ⟨o1, o2⟩, by omega, by omega, (BB.scr F).trans hB, k48, hk2⟩
  exact lean_step (R.scr F G) M1 (by omega)
