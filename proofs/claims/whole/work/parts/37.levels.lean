/-! ===== levels ===== -/
theorem ex3 {a b : Int32} {S1 T1 : St} {P : St → St → Prop} (h : a = b) (hP : P S1 T1) : ∃ r S2 T2, some (a, S1) = some (r, S2) ∧ some (b, T1) = some (r, T2) ∧ P S2 T2 := ⟨a, S1, T1, rfl, by rw [h], hP⟩
theorem nb01 {x : Int32} (h : x = 0 ∨ x = 1) : vp_nar .boolean x = x := by
  rcases h with h | h <;> subst h <;> rfl
theorem moveUp {p n : Nat} (hp : p ≤ n) (hn : n ≤ 11) : ∀ (d j f : Nat) (S : St), p + d = j → d < f → j ≤ n → gI S 3 = nI n → (∀ k, k < j → gA S 20 k = 0 ∨ gA S 20 k = 1) → ∃ S1, f_X2_moveUpFrom_l5 (nI p) f (nI j, S) = some ((), S1) ∧ gI S1 3 = nI (n + 1) ∧ ∀ k, (gA S1 18 k = if p < k ∧ k ≤ j then gA S 18 (k - 1) else gA S 18 k) ∧ (gA S1 19 k = if p < k ∧ k ≤ j then gA S 19 (k - 1) else gA S 19 k) ∧ (gA S1 20 k = if p < k ∧ k ≤ j then gA S 20 (k - 1) else gA S 20 k) := by
  intro d
  induction d with
  | zero =>
    intro j f S hj hf hjn e1 _
    have e : j = p := by omega
    subst e
    obtain ⟨f, rfl⟩ : ∃ f1, f = f1 + 1 := ⟨f - 1, by omega⟩
    refine ⟨pI S 3 (nI n + 1), ?_, ?_, fun k => ?_⟩
    · show f_X2_moveUpFrom_b5 (f_X2_moveUpFrom_l5 (nI j) f) (nI j) (nI j) S = _
      unfold f_X2_moveUpFrom_b5
      rw [if_pos (nI_le (by omega) (by omega)), vlet_eq, e1]
    · rw [gI_pI, if_pos rfl, nI_1]
    · have q : ¬ (j < k ∧ k ≤ j) := by omega
      rw [if_neg q, if_neg q, if_neg q]; exact ⟨rfl, rfl, rfl⟩
  | succ d ih =>
    intro j f S hj hf hjn e1 hb
    obtain ⟨f, rfl⟩ : ∃ f1, f = f1 + 1 := ⟨f - 1, by omega⟩
    obtain ⟨i, rfl⟩ : ∃ i, j = i + 1 := ⟨j - 1, by omega⟩
    have g1 : inb (nI i) 12 = true := inb_nI (by omega) (by omega)
    have g2 : inb (nI (i + 1)) 12 = true := inb_nI (by omega) (by omega)
    have g3 : (nI i).toNatClampNeg = i := nI_clamp (by omega)
    have g4 : (nI (i + 1)).toNatClampNeg = i + 1 := nI_clamp (by omega)
    have g5 : ¬ nI (i + 1) ≤ nI p := nI_ge (by omega) (by omega)
    have hS : ∃ S2, f_X2_moveUpFrom_l5 (nI p) (f + 1) (nI (i + 1), S) = f_X2_moveUpFrom_l5 (nI p) f (nI i, S2) ∧ gI S2 3 = nI n ∧ gA S2 18 = upd (gA S 18) (i + 1) (gA S 18 i) ∧ gA S2 19 = upd (gA S 19) (i + 1) (gA S 19 i) ∧ gA S2 20 = upd (gA S 20) (i + 1) (gA S 20 i) := by
      refine ⟨wr (wr (wr S 18 (nI (i + 1)) (gA S 18 i)) 19 (nI (i + 1)) (gA S 19 i)) 20 (nI (i + 1)) (gA S 20 i), ?_, e1, ?_, ?_, ?_⟩
      · show f_X2_moveUpFrom_b5 (f_X2_moveUpFrom_l5 (nI p) f) (nI p) (nI (i + 1)) S = _
        unfold f_X2_moveUpFrom_b5
        rw [if_neg g5, nI_pred, chk_of g1, chk_of g2, vlet_eq, chk_of g1, chk_of g2, vlet_eq, chk_of g1, chk_of g2, vlet_eq, pk_m1]
        simp only [rd, g3]
        have e20 : vp_nar .boolean (gA (wr (wr S 18 (nI (i + 1)) (gA S 18 i)) 19 (nI (i + 1)) (gA (wr S 18 (nI (i + 1)) (gA S 18 i)) 19 i)) 20 i) = gA S 20 i := nb01 (hb i (by omega))
        rw [e20]; rfl
      · simp only [gA_wr, reduceIte, Nat.reduceEqDiff, g4]
      · simp only [gA_wr, reduceIte, Nat.reduceEqDiff, g4]
      · simp only [gA_wr, reduceIte, Nat.reduceEqDiff, g4]
    obtain ⟨S2, h1, h2, h3, h4, h5⟩ := hS
    obtain ⟨S1, k1, k2, k3⟩ := ih i f S2 (by omega) (by omega) (by omega) h2 (fun k hk => by rw [h5, upd_ne (by omega)]; exact hb k (by omega))
    refine ⟨S1, h1.trans k1, k2, fun k => ?_⟩
    obtain ⟨m1, m2, m3⟩ := k3 k
    rw [h3] at m1; rw [h4] at m2; rw [h5] at m3
    by_cases q1 : p < k ∧ k ≤ i
    · rw [if_pos q1, upd_ne (by omega)] at m1 m2 m3
      rw [if_pos (by omega), if_pos (by omega), if_pos (by omega)]
      exact ⟨m1, m2, m3⟩
    · rw [if_neg q1] at m1 m2 m3
      by_cases q2 : k = i + 1
      · subst q2
        rw [upd_self] at m1 m2 m3
        rw [if_pos (by omega), if_pos (by omega), if_pos (by omega)]
        exact ⟨m1, m2, m3⟩
      · rw [upd_ne q2] at m1 m2 m3
        rw [if_neg (by omega), if_neg (by omega), if_neg (by omega)]
        exact ⟨m1, m2, m3⟩
theorem put_find (a1 a2 a3 : Int32) (S : St) (n : Nat) (hn : n ≤ 12) (e1 : gI S 3 = nI n) : ∀ d i f, i + d = n → d < f → (∀ k, k < i → gA S 18 k < a1) → ∃ p, p ≤ n ∧ (∀ k, k < p → gA S 18 k < a1) ∧ (p < n → a1 ≤ gA S 18 p) ∧ f_X2_put_l3 a1 a2 a3 f (nI i, S) = f_X2_put_b29 a1 a2 a3 (nI p) S := by
  intro d
  induction d with
  | zero =>
    intro i f hi hf hlo
    have e : i = n := by omega
    subst e
    obtain ⟨f, rfl⟩ : ∃ f1, f = f1 + 1 := ⟨f - 1, by omega⟩
    refine ⟨i, by omega, hlo, fun h => by omega, ?_⟩
    show f_X2_put_b3 (f_X2_put_l3 a1 a2 a3 f) a1 a2 a3 (nI i) S = _
    unfold f_X2_put_b3
    rw [e1, if_pos (nI_le (by omega) (by omega))]
  | succ d ih =>
    intro i f hi hf hlo
    obtain ⟨f, rfl⟩ : ∃ f1, f = f1 + 1 := ⟨f - 1, by omega⟩
    have g3 : inb (nI i) 12 = true := inb_nI (by omega) (by omega)
    have g4 : (nI i).toNatClampNeg = i := nI_clamp (by omega)
    have g5 : ¬ nI n ≤ nI i := nI_ge (by omega) (by omega)
    have E : f_X2_put_l3 a1 a2 a3 (f + 1) (nI i, S) = if a1 ≤ gA S 18 i then f_X2_put_b29 a1 a2 a3 (nI i) S else f_X2_put_l3 a1 a2 a3 f (nI (i + 1), S) := by
      show f_X2_put_b3 (f_X2_put_l3 a1 a2 a3 f) a1 a2 a3 (nI i) S = _
      unfold f_X2_put_b3
      rw [e1, if_neg g5, chk_of g3, nI_1, rd, g4]
    by_cases h : a1 ≤ gA S 18 i
    · exact ⟨i, by omega, hlo, fun _ => h, by rw [E, if_pos h]⟩
    · obtain ⟨p, q1, q2, q3, q4⟩ := ih (i + 1) f (by omega) (by omega) (fun k hk => by
        by_cases hki : k = i
        · subst hki; exact Int32.not_le.mp h
        · exact hlo k (by omega))
      exact ⟨p, q1, q2, q3, by rw [E, if_neg h]; exact q4⟩
theorem lev_find (a1 a2 a3 : Int32) (T : St) (n : Nat) (hn : n ≤ 12) (e2 : gI T 24 = nI n) : ∀ d i f w, i + d = n → d < f → ((w = -1 ∧ ∀ k, k < i → gA T 54 k ≠ a1) ∨ ∃ k, k < i ∧ w = nI k ∧ gA T 54 k = a1) → ∃ w1, ((w1 = -1 ∧ ∀ k, k < n → gA T 54 k ≠ a1) ∨ ∃ k, k < n ∧ w1 = nI k ∧ gA T 54 k = a1) ∧ f_X12_level_l34 a1 a2 a3 f (w, nI i, T) = f_X12_level_b34 (fun _ => none) a1 a2 a3 w1 (nI n) T := by
  intro d
  induction d with
  | zero =>
    intro i f w hi hf hw
    have e : i = n := by omega
    subst e
    obtain ⟨f, rfl⟩ : ∃ f1, f = f1 + 1 := ⟨f - 1, by omega⟩
    refine ⟨w, hw, ?_⟩
    show f_X12_level_b34 (f_X12_level_l34 a1 a2 a3 f) a1 a2 a3 w (nI i) T = _
    unfold f_X12_level_b34
    rw [e2, if_pos (nI_le (by omega) (by omega)), if_pos (nI_le (by omega) (by omega))]
  | succ d ih =>
    intro i f w hi hf hw
    obtain ⟨f, rfl⟩ : ∃ f1, f = f1 + 1 := ⟨f - 1, by omega⟩
    have g3 : inb (nI i) 12 = true := inb_nI (by omega) (by omega)
    have g4 : (nI i).toNatClampNeg = i := nI_clamp (by omega)
    have g5 : ¬ nI n ≤ nI i := nI_ge (by omega) (by omega)
    have E : f_X12_level_l34 a1 a2 a3 (f + 1) (w, nI i, T) = f_X12_level_l34 a1 a2 a3 f (if gA T 54 i = a1 then nI i else w, nI (i + 1), T) := by
      show f_X12_level_b34 (f_X12_level_l34 a1 a2 a3 f) a1 a2 a3 w (nI i) T = _
      unfold f_X12_level_b34 f_X12_level_b61
      rw [e2, if_neg g5, chk_of g3, nI_1, rd, g4]
      by_cases h : gA T 54 i = a1
      · rw [if_pos h, if_pos h]
      · rw [if_neg h, if_neg h]
    rw [E]
    refine ih (i + 1) f _ (by omega) (by omega) ?_
    by_cases h : gA T 54 i = a1
    · rw [if_pos h]; exact .inr ⟨i, by omega, rfl, h⟩
    · rw [if_neg h]
      rcases hw with ⟨w1, w2⟩ | ⟨k, w1, w2, w3⟩
      · refine .inl ⟨w1, fun k hk => ?_⟩
        by_cases hki : k = i
        · subst hki; exact h
        · exact w2 k (by omega)
      · exact .inr ⟨k, by omega, w2, w3⟩
theorem op_level (a1 a2 a3 : Int32) (h3 : a3 = 0 ∨ a3 = 1) : Op (f_X11_level a1 a2 a3) (f_X12_level a1 a2 a3) := by
  intro S T R
  have R0 := R
  suffices hh : ∃ r S1 T1, f_X11_level a1 a2 a3 S = some (r, S1) ∧ f_X12_level a1 a2 a3 T = some (r, T1) ∧ RLevels S1 T1 by
    obtain ⟨r, S1, T1, hC, hM, h⟩ := hh
    obtain ⟨r1, r2, r3, r4, r5, r6, r7, r8, r9⟩ := R
    have F := fr_X11_level a1 a2 a3 S hC
    have G := fr_X12_level a1 a2 a3 T hM
    refine ⟨r, S1, T1, hC, hM, ?_⟩
    exact ⟨(r1.c (F.1 _ rfl) (F.2.1 _ rfl) (F.2.1 _ rfl) (F.2.1 _ rfl) (F.2.1 _ rfl) (F.2.1 _ rfl)).m (G.1 _ rfl) (G.2.1 _ rfl) (G.2.1 _ rfl) (G.2.1 _ rfl) (G.2.1 _ rfl) (G.2.1 _ rfl), (r2.c (F.1 _ rfl) (F.1 _ rfl)).m (G.1 _ rfl) (G.1 _ rfl), h, (r4.c (F.1 _ rfl) (F.2.1 _ rfl) (F.2.1 _ rfl) (F.2.1 _ rfl)).m (G.1 _ rfl) (G.2.1 _ rfl) (G.2.1 _ rfl) (G.2.1 _ rfl), (r5.c (F.1 _ rfl) (F.2.1 _ rfl)).m (G.1 _ rfl) (G.2.1 _ rfl), (r6.c (F.1 _ rfl) (F.2.1 _ rfl) (F.2.1 _ rfl) (F.2.1 _ rfl) (F.2.1 _ rfl) (F.2.1 _ rfl)).m (G.1 _ rfl) (G.2.1 _ rfl) (G.2.1 _ rfl) (G.2.1 _ rfl) (G.2.1 _ rfl), (r7.c (F.1 _ rfl) (F.1 _ rfl) (F.2.1 _ rfl) (fun c h => F.2.1 _ (all_not (p := fun k => decide (k < 42)) rfl (decide_eq_false (by omega))))).m (G.1 _ rfl) (G.2.1 _ rfl), r8.c (fun k => (F.2.2.2 rfl k).2), (G.2.2.1 _ rfl).trans (r9.trans (F.2.2.1 _ rfl).symm)⟩
  obtain ⟨r1, r2, r3, r4, r5, r6, r7, r8, r9⟩ := R
  have r30 := r3
  unfold f_X11_level f_X11_level_b0 f_X11_level_b17 f_X12_level f_X12_level_b0 f_X12_level_b24
  simp only [isWithin_eq, isTick_eq, bnd_mk, ite01, in_w a1 0 20000 (lo := 0) (hi := 20000) (by decide) (by decide), in_w a2 1 127 (lo := 1) (hi := 127) (by decide) (by decide), bnd_id]
  by_cases h1 : 0 ≤ a1 ∧ a1 ≤ 20000
  case neg => simp only [if_neg h1]; exact ⟨_, _, _, rfl, rfl, r30⟩
  by_cases h2 : 1 ≤ a2 ∧ a2 ≤ 127
  case neg => simp only [if_pos h1, if_neg h2]; exact ⟨_, _, _, rfl, rfl, r30⟩
  simp only [if_pos h1, if_pos h2]
  obtain ⟨n, hn, e1, e2, hs, hb, hf, hg, hd⟩ := r3
  obtain ⟨p, p1, p2, p3, p4⟩ := put_find a1 a2 a3 S n hn e1 n 0 fuel (by omega) (by unfold fuel; omega) (fun k h => by omega)
  obtain ⟨w, w1, w2⟩ := lev_find a1 a2 a3 T n hn e2 n 0 fuel (-1) (by omega) (by unfold fuel; omega) (.inl ⟨rfl, fun k h => by omega⟩)
  have p4 : f_X2_put a1 a2 a3 S = f_X2_put_b29 a1 a2 a3 (nI p) S := p4
  have w2 : f_X12_level_l34 a1 a2 a3 fuel (-1, 0, T) = f_X12_level_b34 (fun _ => none) a1 a2 a3 w (nI n) T := w2
  rw [p4, w2]
  clear p4 w2
  have hinj : ∀ i j, i < n → j < n → gA S 18 i = gA S 18 j → i = j := by
    intro i j hi hj h
    rcases Nat.lt_trichotomy i j with q | q | q
    · have := hs i j q hj; rw [h, lt_int] at this; omega
    · exact q
    · have := hs j i q hi; rw [h, lt_int] at this; omega
  have n3 := nb01 h3
  by_cases hfound : p < n ∧ gA S 18 p = a1
  · obtain ⟨hpn, hpa⟩ := hfound
    have hw : ∃ k, k < n ∧ w = nI k ∧ gA T 54 k = a1 := by
      rcases w1 with ⟨_, q⟩ | q
      · obtain ⟨j, q1, q2, _⟩ := hf p hpn
        exact absurd (q2.trans hpa) (q j q1)
      · exact q
    obtain ⟨k, k1, rfl, k3⟩ := hw
    have g3 : inb (nI p) 12 = true := inb_nI (by omega) (by omega)
    have g4 : (nI p).toNatClampNeg = p := nI_clamp (by omega)
    have g5 : ¬ nI n ≤ nI p := nI_ge (by omega) (by omega)
    have k4 : inb (nI k) 12 = true := inb_nI (by omega) (by omega)
    have k5 : (nI k).toNatClampNeg = k := nI_clamp (by omega)
    have k6 : ¬ nI k = -1 := by
      intro q
      have := congrArg Int32.toInt q
      rw [nI_toInt (by omega)] at this
      have e : (-1 : Int32).toInt = -1 := rfl
      omega
    unfold f_X2_put_b29 f_X2_put_b54 f_X2_put_b74 f_X2_put_b85 f_X12_level_b34 f_X12_level_b88 f_X12_level_b110
    have o : ¬ (1 : Int32) = 0 := by decide
    simp only [e1, e2, if_neg g5, chk_of g3, chk_of k4, rd, g4, if_pos hpa, if_neg o, if_neg k6, if_pos (nI_le (Nat.le_refl n) (show n < 2 ^ 31 by omega)), vlet_eq, n3]
    refine ex3 ?_ ?_
    · show gI S 3 = gI T 24
      rw [e1, e2]
    · refine ⟨n, hn, e1, e2, ?_, ?_, ?_, ?_, ?_⟩
      · intro i j hij hj
        simp only [gA_wr, reduceIte, Nat.reduceEqDiff, g4, upd_at]
        have q : ∀ x, (if x = p then a1 else gA S 18 x) = gA S 18 x := by
          intro x; by_cases hx : x = p
          · rw [if_pos hx, hx, hpa]
          · rw [if_neg hx]
        rw [q, q]; exact hs i j hij hj
      · intro i hi
        simp only [gA_wr, reduceIte, Nat.reduceEqDiff, g4, upd_at]
        by_cases hx : i = p
        · simp only [if_pos hx]; exact ⟨h1, h2, h3⟩
        · simp only [if_neg hx]; exact hb i hi
      · intro i hi
        simp only [gA_wr, reduceIte, Nat.reduceEqDiff, g4, k5, upd_at]
        by_cases hx : i = p
        · refine ⟨k, k1, ?_⟩
          simp only [if_pos hx, if_pos, and_self]
        · obtain ⟨j, j1, j2, j3, j4⟩ := hf i hi
          have hjk : ¬ j = k := by
            intro q; subst q
            exact hx (hinj i p hi hpn (by rw [hpa, ← k3, j2]))
          refine ⟨j, j1, ?_⟩
          simp only [if_neg hx, if_neg hjk]; exact ⟨j2, j3, j4⟩
      · intro j hj
        simp only [gA_wr, reduceIte, Nat.reduceEqDiff, g4, k5, upd_at]
        by_cases hx : j = k
        · refine ⟨p, hpn, ?_⟩
          simp only [if_pos hx, if_pos, and_self]
        · obtain ⟨i, j1, j2, j3, j4⟩ := hg j hj
          have hjk : ¬ i = p := by
            intro q; subst q
            exact hx (hd j k hj k1 (by rw [k3, j2, hpa]))
          refine ⟨i, j1, ?_⟩
          simp only [if_neg hx, if_neg hjk]; exact ⟨j2, j3, j4⟩
      · intro i j hi hj
        simp only [gA_wr, reduceIte, Nat.reduceEqDiff, k5, upd_at]
        have q : ∀ x, (if x = k then a1 else gA T 54 x) = gA T 54 x := by
          intro x; by_cases hx : x = k
          · rw [if_pos hx, hx, k3]
          · rw [if_neg hx]
        rw [q, q]; exact hd i j hi hj
  · have hno : ∀ i, i < n → gA S 18 i ≠ a1 := by
      intro i hi q
      rcases Nat.lt_trichotomy i p with h | h | h
      · have := p2 i h; rw [q, lt_int] at this; omega
      · subst h; exact hfound ⟨hi, q⟩
      · have h5 := p3 (by omega)
        have h6 := hs p i h hi
        rw [q, lt_int] at h6; rw [le_int] at h5; omega
    have hnoT : ∀ j, j < n → gA T 54 j ≠ a1 := by
      intro j hj q
      obtain ⟨i, i1, i2, _⟩ := hg j hj
      exact hno i i1 (i2.symm.trans q)
    have hw : w = -1 := by
      rcases w1 with ⟨q, _⟩ | ⟨k, q1, _, q3⟩
      · exact q
      · exact absurd q3 (hnoT k q1)
    subst hw
    have E1 : f_X2_put_b29 a1 a2 a3 (nI p) S = f_X2_put_b54 a1 a2 a3 (nI p) 0 S := by
      unfold f_X2_put_b29 f_X2_put_b53
      by_cases hpn : p < n
      · have g3 : inb (nI p) 12 = true := inb_nI (by omega) (by omega)
        have g4 : (nI p).toNatClampNeg = p := nI_clamp (by omega)
        rw [e1, if_neg (nI_ge hpn (by omega)), chk_of g3, rd, g4, if_neg (hno p hpn)]
      · rw [e1, if_pos (nI_le (by omega) (by omega))]
    rw [E1]
    unfold f_X2_put_b54 f_X2_put_b74 f_X12_level_b34
    have o : (0 : Int32) = 0 := rfl
    have o1 : (-1 : Int32) = -1 := rfl
    simp only [if_pos o, if_pos o1, e1, e2, if_pos (nI_le (Nat.le_refl n) (show n < 2 ^ 31 by omega))]
    by_cases hq : n = 12
    · subst hq
      exact ⟨_, _, _, rfl, rfl, r30⟩
    · have hlt : n < 12 := by omega
      have g1 : nI n < 12 := nI_lt (b := 12) hlt (by omega)
      have g2 : ¬ nI n = 12 := fun e => hq ((nI_eq (b := 12) (by omega) (by omega)).mp e)
      have g3 : inb (nI p) 12 = true := inb_nI (by omega) (by omega)
      have g4 : (nI p).toNatClampNeg = p := nI_clamp (by omega)
      have k4 : inb (nI n) 12 = true := inb_nI (by omega) (by omega)
      have k5 : (nI n).toNatClampNeg = n := nI_clamp (by omega)
      obtain ⟨S1, m1, m2, m3⟩ := moveUp (p := p) (n := n) p1 (by omega) (n - p) n fuel S (by omega) (by unfold fuel; omega) (by omega) e1 (fun k hk => (hb k hk).2.2)
      have m1 : f_X2_moveUpFrom (nI p) S = some ((), S1) := by
        unfold f_X2_moveUpFrom f_X2_moveUpFrom_b0; rw [vlet_eq, e1]; exact m1
      unfold f_X2_put_b85 f_X12_level_b88 f_X12_level_b110
      simp only [if_pos g1, if_neg g2, m1, bnd_mk, if_pos o1, vlet_eq, chk_of g3, n3, e2, chk_of k4]
      refine ex3 ?_ ?_
      · show gI S1 3 = gI (pI T 24 (nI n + 1)) 24
        rw [m2, gI_pI, if_pos rfl, nI_1]
      · refine ⟨n + 1, hlt, m2, ?_, ?_, ?_, ?_, ?_, ?_⟩
        · simp only [gI_wr, gI_pI, reduceIte, nI_1]
        · intro i j hij hj
          simp only [gA_wr, reduceIte, Nat.reduceEqDiff, g4, upd_at]
          obtain ⟨ni, -, -⟩ := m3 i
          obtain ⟨nj, -, -⟩ := m3 j
          by_cases ci : i = p
          · rw [if_pos ci, if_neg (by omega), nj, if_pos (by omega)]
            by_cases cj : j - 1 = p
            · rw [cj]
              have h5 := p3 (by omega)
              have h6 := hno p (by omega)
              rw [lt_int]; rw [le_int] at h5
              have h7 : (gA S 18 p).toInt ≠ a1.toInt := fun q => h6 (eq_int.mpr q)
              omega
            · have h5 := p3 (by omega)
              have h6 := hs p (j - 1) (by omega) (by omega)
              rw [lt_int] at *; rw [le_int] at h5; omega
          · by_cases cj : j = p
            · rw [if_neg ci, if_pos cj, ni, if_neg (by omega)]; exact p2 i (by omega)
            · rw [if_neg ci, if_neg cj, ni, nj]
              by_cases di : p < i
              · rw [if_pos (by omega), if_pos (by omega)]; exact hs _ _ (by omega) (by omega)
              · rw [if_neg (by omega)]
                by_cases dj : p < j
                · rw [if_pos (by omega)]; exact hs _ _ (by omega) (by omega)
                · rw [if_neg (by omega)]; exact hs _ _ (by omega) (by omega)
        · intro i hi
          simp only [gA_wr, reduceIte, Nat.reduceEqDiff, g4, upd_at]
          by_cases hx : i = p
          · simp only [if_pos hx]; exact ⟨h1, h2, h3⟩
          · simp only [if_neg hx]
            obtain ⟨n1, n2, n3⟩ := m3 i
            rw [n1, n2, n3]
            by_cases di : p < i ∧ i ≤ n
            · rw [if_pos di, if_pos di, if_pos di]; exact hb (i - 1) (by omega)
            · rw [if_neg di, if_neg di, if_neg di]; exact hb i (by omega)
        · intro i hi
          simp only [gA_wr, gA_pI, reduceIte, Nat.reduceEqDiff, g4, k5, upd_at]
          by_cases hx : i = p
          · refine ⟨n, by omega, ?_⟩
            simp only [if_pos hx, if_pos, and_self]
          · obtain ⟨n1, n2, n3⟩ := m3 i
            have hex : ∃ i0, i0 < n ∧ gA S1 18 i = gA S 18 i0 ∧ gA S1 19 i = gA S 19 i0 ∧ gA S1 20 i = gA S 20 i0 := by
              by_cases di : p < i ∧ i ≤ n
              · rw [if_pos di] at n1 n2 n3; exact ⟨i - 1, by omega, n1, n2, n3⟩
              · rw [if_neg di] at n1 n2 n3; exact ⟨i, by omega, n1, n2, n3⟩
            obtain ⟨i0, i1, i2, i3, i4⟩ := hex
            obtain ⟨j, j1, j2, j3, j4⟩ := hf i0 i1
            refine ⟨j, by omega, ?_⟩
            simp only [if_neg hx, if_neg (show ¬ j = n by omega)]
            exact ⟨j2.trans i2.symm, j3.trans i3.symm, j4.trans i4.symm⟩
        · intro j hj
          simp only [gA_wr, gA_pI, reduceIte, Nat.reduceEqDiff, g4, k5, upd_at]
          by_cases hx : j = n
          · refine ⟨p, by omega, ?_⟩
            simp only [if_pos hx, if_pos, and_self]
          · obtain ⟨i0, i1, i2, i3, i4⟩ := hg j (by omega)
            by_cases di : i0 < p
            · obtain ⟨n1, n2, n3⟩ := m3 i0
              rw [if_neg (by omega)] at n1 n2 n3
              refine ⟨i0, by omega, ?_⟩
              simp only [if_neg hx, if_neg (show ¬ i0 = p by omega), n1, n2, n3]
              exact ⟨i2, i3, i4⟩
            · obtain ⟨n1, n2, n3⟩ := m3 (i0 + 1)
              rw [if_pos (by omega)] at n1 n2 n3
              refine ⟨i0 + 1, by omega, ?_⟩
              simp only [if_neg hx, if_neg (show ¬ i0 + 1 = p by omega), n1, n2, n3, Nat.add_sub_cancel]
              exact ⟨i2, i3, i4⟩
        · intro i j hi hj
          simp only [gA_wr, gA_pI, reduceIte, Nat.reduceEqDiff, k5, upd_at]
          by_cases ci : i = n
          · by_cases cj : j = n
            · intro _; omega
            · rw [if_pos ci, if_neg cj]; intro q; exact absurd q.symm (hnoT j (by omega))
          · by_cases cj : j = n
            · rw [if_neg ci, if_pos cj]; intro q; exact absurd q (hnoT i (by omega))
            · rw [if_neg ci, if_neg cj]; exact hd i j (by omega) (by omega)
