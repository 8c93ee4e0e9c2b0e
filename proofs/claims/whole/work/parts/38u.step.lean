/-! ===== perform: one part, both ===== -/
theorem addPart_C {S : St} {p : Nat} (e : gI S 19 = nI p) (h : p < 400) (kind q x l : Int32) : ∃ S1, f_X6_addPart kind q x l S = some ((), S1) ∧ gI S1 19 = nI (p + 1) ∧ gI S1 20 = gI S 20 ∧ gI S1 17 = gI S 17 + l ∧ gI S1 18 = gI S 18 - l ∧ gA S1 32 = upd (gA S 32) p (gI S 17) ∧ gA S1 33 = upd (gA S 33) p l ∧ gA S1 34 = upd (gA S 34) p q ∧ gA S1 35 = upd (gA S 35) p x ∧ gA S1 36 = upd (gA S 36) p (gI S 12) ∧ gA S1 37 = upd (gA S 37) p kind ∧ gA S1 38 = upd (gA S 38) p (gI S 13) := by
  obtain ⟨S0, h0, h1, h2, h3, h4, h5, h6, h7, h8, h9⟩ := add_C e h (gI S 17) l q x (gI S 12) kind (gI S 13)
  have F := fr_X1_add _ _ _ _ _ _ _ S h0
  have f17 : gI S0 17 = gI S 17 := F.1 17 rfl
  have f18 : gI S0 18 = gI S 18 := F.1 18 rfl
  unfold f_X6_addPart f_X6_addPart_b0
  rw [h0, bnd_mk, vlet_eq, vlet_eq]
  refine ⟨_, rfl, ?_, ?_, ?_, ?_, h3, h4, h5, h6, h7, h8, h9⟩
  · simp only [gI_pI, reduceIte, Nat.reduceEqDiff]; exact h1
  · simp only [gI_pI, reduceIte, Nat.reduceEqDiff]; exact h2
  · simp only [gI_pI, reduceIte, Nat.reduceEqDiff, f17]
  · simp only [gI_pI, reduceIte, Nat.reduceEqDiff, f18]
theorem addPart_over {S : St} (e : gI S 19 = nI 400) (kind q x l : Int32) : ∃ S1, f_X6_addPart kind q x l S = some ((), S1) ∧ gI S1 19 = nI 400 ∧ gI S1 20 = 1 ∧ gI S1 17 = gI S 17 + l ∧ gI S1 18 = gI S 18 - l := by
  unfold f_X6_addPart f_X6_addPart_b0 f_X1_add f_X1_add_b0
  rw [e, if_neg (show ¬ nI 400 < (400 : Int32) by decide), vlet_eq, bnd_mk, vlet_eq, vlet_eq]
  refine ⟨_, rfl, ?_, ?_, ?_, ?_⟩
  all_goals simp only [gI_pI, reduceIte, Nat.reduceEqDiff]
  exact e
theorem put_over {T : St} {p : Nat} (e : gI T 33 = nI p) (h : 400 ≤ p) (hp : p < 2 ^ 30) (k kind dy x t : Int32) : ∃ T1, f_X12_sounds k kind dy x t T = some ((), T1) ∧ gI T1 33 = nI (p + 1) ∧ gI T1 35 = gI T 35 + t ∧ gI T1 36 = gI T 36 - t := by
  unfold f_X12_sounds f_X12_sounds_b0 f_X12_sounds_b146
  rw [e, if_pos (show (400 : Int32) ≤ nI p from nI_le (a := 400) h (by omega)), vlet_eq, vlet_eq, vlet_eq, nI_1]
  refine ⟨_, rfl, ?_, ?_, ?_⟩
  all_goals simp only [gI_pI, reduceIte, Nat.reduceEqDiff]
theorem sub_nI {b l : Nat} (h : l ≤ b) : nI b - nI l = nI (b - l) := pk_sub h
theorem part_step {B : Int32 → Int32} {S T : St} {k p a b : Nat} {lo : Int32} (R : Rel S T) (M : Mid B S T k p a b lo) {q l : Nat} (hq : q ≤ 117) (l1 : 1 ≤ l) (lb : l ≤ b) (kind dy x : Int32) (hp : gA S 16 k + dy = nI q) : ∃ S1 T1, f_X6_addPart kind (nI q) x (nI l) S = some ((), S1) ∧ f_X12_sounds (nI k) kind dy x (nI l) T = some ((), T1) ∧ Rel S1 T1 ∧ Mid B S1 T1 k (p + 1) (a + l) (b - l) lo := by
  obtain ⟨⟨P0, P1, P2⟩, tk, ⟨a1, a2⟩, ⟨b1, b2⟩, ⟨o1, o2⟩, hab, hpb, hB, k48, hk2⟩ := M
  obtain ⟨hC, hM, hbd⟩ := BB_of R.2.2.2.1
  -- what stays, whichever way
  have stay : ∀ S1 T1, f_X6_addPart kind (nI q) x (nI l) S = some ((), S1) → f_X12_sounds (nI k) kind dy x (nI l) T = some ((), T1) → gI S1 17 = gI S 17 + nI l → gI S1 18 = gI S 18 - nI l → gI T1 35 = gI T 35 + nI l → gI T1 36 = gI T 36 - nI l → Ps B S1 T1 (p + 1) k → Rel S1 T1 ∧ Mid B S1 T1 k (p + 1) (a + l) (b - l) lo := by
    intro S1 T1 e1 e2 s17 s18 t35 t36 hP
    have F0 := fr_X6_addPart _ _ _ _ S e1
    have G0 := fr_X12_sounds _ _ _ _ _ T e2
    have F : Fr Wc S S1 := F0.mono rfl rfl rfl rfl
    have G : Fr Wm T T1 := G0.mono rfl rfl rfl rfl
    have i12 : gI S1 12 = gI S 12 := F0.1 12 rfl
    have i13 : gI S1 13 = gI S 13 := F0.1 13 rfl
    have i14 : gI S1 14 = gI S 14 := F0.1 14 rfl
    have i15 : gI S1 15 = gI S 15 := F0.1 15 rfl
    have i16 : gI S1 16 = gI S 16 := F0.1 16 rfl
    have i2 : gI S1 2 = gI S 2 := F0.1 2 rfl
    have t37 : gI T1 37 = gI T 37 := G0.1 37 rfl
    have r13 : gA S1 13 = gA S 13 := F0.2.1 13 rfl
    have r16 : gA S1 16 = gA S 16 := F0.2.1 16 rfl
    have r17 : gA S1 17 = gA S 17 := F0.2.1 17 rfl
    refine ⟨R.scr F G, hP, ?_, ⟨?_, ?_⟩, ⟨?_, ?_⟩, ⟨i16.trans o1, t37.trans o2⟩, by omega, by omega, (BB.scr F).trans hB, k48, by rw [i2]; exact hk2⟩
    · unfold Taken; rw [i12, i13, i14, i15, r13, r16, r17]; exact tk
    · rw [s17, a1, nI_add]
    · rw [t35, a2, nI_add]
    · rw [s18, b1, sub_nI lb]
    · rw [t36, b2, sub_nI lb]
  by_cases h : p < 400
  · obtain ⟨e19, e20, Pt0, Pk, Pm⟩ := P1 (by omega)
    obtain ⟨S1, c0, c1, c2, c3, c4, c5, c6, c7, c8, c9, c10, c11⟩ := addPart_C e19 h kind (nI q) x (nI l)
    obtain ⟨T1, m0, m1, m2, m3, m4⟩ := put_M (BB S) P0 h k48 hM kind dy x (nI l)
    refine ⟨S1, T1, c0, m0, stay S1 T1 c0 m0 c3 c4 m2 m3 ⟨m1, fun hp4 => ⟨c1, c2.trans e20, ?_, ?_, ?_⟩, fun hp4 => absurd hp4 (by omega)⟩⟩
    · intro i hi
      have F0 := fr_X6_addPart _ _ _ _ S c0
      have i2 : gI S1 2 = gI S 2 := F0.1 2 rfl
      have r13 : gA S1 13 = gA S 13 := F0.2.1 13 rfl
      obtain ⟨w0, w1, w2, w3, w4, w5, w6⟩ := row6 (gA T 65) p (BB S (gI T 35)) (imax 1 (BB S (gI T 35 + nI l) - BB S (gI T 35))) (gA T 52 k + dy) x (nI k) kind
      by_cases hip : i = p
      · subst hip
        obtain ⟨n, hn, q1, q2, q3⟩ := R.1
        have hkn : k < n := by rw [q1] at hk2; exact (nI_ltI (by omega) (by omega)).mp hk2
        have t52 : gA T 52 k = gA S 16 k := (q3 k hkn).1.2.2.2.1
        refine ⟨⟨a, l, by omega, ?_, ?_, ?_, ?_⟩, ?_, ⟨k, k48, by rw [i2]; exact hk2, ?_, ?_⟩, ⟨q, hq, ?_⟩⟩
        · rw [c5, upd_self, a1]
        · rw [c6, upd_self]
        · rw [m4, w1, a2, hB]
        · rw [m4, w2, a2, hB, nI_add]
        · intro c h2 h6
          have hc : c = 2 ∨ c = 3 ∨ c = 4 ∨ c = 5 := by omega
          rcases hc with rfl | rfl | rfl | rfl
          · show gA T1 65 (6 * i + 2) = gA S1 34 i
            rw [m4, w3, c7, upd_self, t52, hp]
          · show gA T1 65 (6 * i + 3) = gA S1 35 i
            rw [m4, w4, c8, upd_self]
          · show gA T1 65 (6 * i + 4) = gA S1 36 i
            rw [m4, w5, c9, upd_self, tk.1]
          · show gA T1 65 (6 * i + 5) = gA S1 37 i
            rw [m4, w6, c10, upd_self]
        · rw [c9, upd_self, tk.1]
        · rw [c11, upd_self, r13, tk.2.1]
        · rw [c7, upd_self]
      · obtain ⟨⟨a', b', u1, u2, u3, u4, u5⟩, v, ⟨j, j1, j2, j3, j4⟩, ⟨q', y1, y2⟩⟩ := Pt0 i (by omega)
        refine ⟨⟨a', b', u1, ?_, ?_, ?_, ?_⟩, ?_, ⟨j, j1, by rw [i2]; exact j2, ?_, ?_⟩, ⟨q', y1, ?_⟩⟩
        · rw [c5, upd_ne hip, u2]
        · rw [c6, upd_ne hip, u3]
        · rw [m4, w0 i 0 hip (by omega), u4]
        · rw [m4, w0 i 1 hip (by omega), u5]
        · intro c h2 h6
          rw [m4, w0 i c hip h6, v c h2 h6]
          have hc : c = 2 ∨ c = 3 ∨ c = 4 ∨ c = 5 := by omega
          rcases hc with rfl | rfl | rfl | rfl
          · show gA S 34 i = gA S1 34 i
            rw [c7, upd_ne hip]
          · show gA S 35 i = gA S1 35 i
            rw [c8, upd_ne hip]
          · show gA S 36 i = gA S1 36 i
            rw [c9, upd_ne hip]
          · show gA S 37 i = gA S1 37 i
            rw [c10, upd_ne hip]
        · rw [c9, upd_ne hip, j3]
        · rw [c11, upd_ne hip, r13, j4]
        · rw [c7, upd_ne hip, y2]
    · intro i hi
      by_cases hip : i = p
      · rw [hip, c9, upd_self, tk.1]; exact Int32.le_refl _
      · rw [c9, upd_ne hip]; exact Pk i (by omega)
    · intro i j hij hj
      by_cases hjp : j = p
      · subst hjp
        rw [c9, upd_self, tk.1]
        by_cases hip : i = j
        · rw [hip, upd_self]; exact Int32.le_refl _
        · rw [upd_ne hip]; exact Pk i (by omega)
      · rw [c9, upd_ne hjp, upd_ne (by omega)]; exact Pm i j hij (by omega)
  · have e19 : gI S 19 = nI 400 := by
      by_cases h4 : p = 400
      · subst h4; exact (P1 (by omega)).1
      · exact (P2 (by omega)).1
    obtain ⟨S1, c0, c1, c2, c3, c4⟩ := addPart_over e19 kind (nI q) x (nI l)
    obtain ⟨T1, m0, m1, m2, m3⟩ := put_over P0 (by omega) (by omega) (nI k) kind dy x (nI l)
    exact ⟨S1, T1, c0, m0, stay S1 T1 c0 m0 c3 c4 m2 m3 ⟨m1, fun hp4 => absurd hp4 (by omega), fun _ => ⟨c1, c2⟩⟩⟩
