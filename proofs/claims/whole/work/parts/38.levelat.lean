/-! ===== the level at a tick ===== -/
theorem at_find (t : Int32) (S : St) (n : Nat) (hn : n ≤ 12) (e1 : gI S 3 = nI n) : ∀ d i f, i + d = n → d < f → (∀ k, k < i → gA S 18 k ≤ t) → ∃ p, p ≤ n ∧ (∀ k, k < p → gA S 18 k ≤ t) ∧ (p < n → t < gA S 18 p) ∧ f_X2_at_l2 t f (nI i, S) = f_X2_at_b26 t (nI p) S := by
  intro d
  induction d with
  | zero =>
    intro i f hi hf hlo
    have e : i = n := by omega
    subst e
    obtain ⟨f, rfl⟩ : ∃ f1, f = f1 + 1 := ⟨f - 1, by omega⟩
    refine ⟨i, by omega, hlo, fun h => by omega, ?_⟩
    show f_X2_at_b2 (f_X2_at_l2 t f) t (nI i) S = _
    unfold f_X2_at_b2
    rw [e1, if_pos (nI_le (by omega) (by omega))]
  | succ d ih =>
    intro i f hi hf hlo
    obtain ⟨f, rfl⟩ : ∃ f1, f = f1 + 1 := ⟨f - 1, by omega⟩
    have g3 : inb (nI i) 12 = true := inb_nI (by omega) (by omega)
    have g4 : (nI i).toNatClampNeg = i := nI_clamp (by omega)
    have g5 : ¬ nI n ≤ nI i := nI_ge (by omega) (by omega)
    have E : f_X2_at_l2 t (f + 1) (nI i, S) = if t < gA S 18 i then f_X2_at_b26 t (nI i) S else f_X2_at_l2 t f (nI (i + 1), S) := by
      show f_X2_at_b2 (f_X2_at_l2 t f) t (nI i) S = _
      unfold f_X2_at_b2
      rw [e1, if_neg g5, chk_of g3, nI_1, rd, g4]
    by_cases h : t < gA S 18 i
    · exact ⟨i, by omega, hlo, fun _ => h, by rw [E, if_pos h]⟩
    · obtain ⟨p, q1, q2, q3, q4⟩ := ih (i + 1) f (by omega) (by omega) (fun k hk => by
        by_cases hki : k = i
        · subst hki; exact Int32.not_lt.mp h
        · exact hlo k (by omega))
      exact ⟨p, q1, q2, q3, by rw [E, if_neg h]; exact q4⟩
/-- the latest at or before -/
def Bef (X : Nat → Int32) (t : Int32) (i : Nat) (w : Int32) : Prop := (w = -1 ∧ ∀ k, k < i → t < X k) ∨ ∃ b, b < i ∧ w = nI b ∧ X b ≤ t ∧ ∀ k, k < i → X k ≤ t → X k ≤ X b
/-- the first one after -/
def Aft (X : Nat → Int32) (t : Int32) (i : Nat) (w : Int32) : Prop := (w = -1 ∧ ∀ k, k < i → X k ≤ t) ∨ ∃ b, b < i ∧ w = nI b ∧ t < X b ∧ ∀ k, k < i → t < X k → X b ≤ X k
theorem nI_m1 {b : Nat} (h : b < 2 ^ 31) : ¬ nI b = -1 := by
  intro q
  have := congrArg Int32.toInt q
  rw [nI_toInt h] at this
  have e : (-1 : Int32).toInt = -1 := rfl
  omega
theorem by_bef (t : Int32) (T : St) (n : Nat) (hn : n ≤ 12) (e2 : gI T 24 = nI n) : ∀ d i f w, i + d = n → d < f → Bef (gA T 54) t i w → ∃ w1, Bef (gA T 54) t n w1 ∧ f_X12_levelBy_l5 t 0 f (w, nI i, T) = some (w1, T) := by
  intro d
  induction d with
  | zero =>
    intro i f w hi hf hw
    have e : i = n := by omega
    subst e
    obtain ⟨f, rfl⟩ : ∃ f1, f = f1 + 1 := ⟨f - 1, by omega⟩
    refine ⟨w, hw, ?_⟩
    show f_X12_levelBy_b5 (f_X12_levelBy_l5 t 0 f) t 0 w (nI i) T = _
    unfold f_X12_levelBy_b5
    rw [e2, if_pos (nI_le (by omega) (by omega))]
  | succ d ih =>
    intro i f w hi hf hw
    obtain ⟨f, rfl⟩ : ∃ f1, f = f1 + 1 := ⟨f - 1, by omega⟩
    have g3 : inb (nI i) 12 = true := inb_nI (by omega) (by omega)
    have g4 : (nI i).toNatClampNeg = i := nI_clamp (by omega)
    have g5 : ¬ nI n ≤ nI i := nI_ge (by omega) (by omega)
    have o : (0 : Int32) = 0 := rfl
    have o1 : ¬ (1 : Int32) = 0 := by decide
    have E : ∃ w2, Bef (gA T 54) t (i + 1) w2 ∧ f_X12_levelBy_l5 t 0 (f + 1) (w, nI i, T) = f_X12_levelBy_l5 t 0 f (w2, nI (i + 1), T) := by
      have e0 : f_X12_levelBy_l5 t 0 (f + 1) (w, nI i, T) = f_X12_levelBy_b5 (f_X12_levelBy_l5 t 0 f) t 0 w (nI i) T := rfl
      rw [e0]
      unfold f_X12_levelBy_b5 f_X12_levelBy_b94 f_X12_levelBy_b90 f_X12_levelBy_b95 f_X12_levelBy_b108
      rw [e2, if_neg g5, if_pos o, chk_of g3, nI_1, rd, g4]
      by_cases h : t < gA T 54 i
      · rw [if_pos h, if_pos o]
        refine ⟨w, ?_, rfl⟩
        rcases hw with ⟨w1, w2⟩ | ⟨b, b1, b2, b3, b4⟩
        · refine .inl ⟨w1, fun k hk => ?_⟩
          by_cases hki : k = i
          · subst hki; exact h
          · exact w2 k (by omega)
        · refine .inr ⟨b, by omega, b2, b3, fun k hk q => ?_⟩
          by_cases hki : k = i
          · subst hki; exact absurd h (Int32.not_lt.mpr q)
          · exact b4 k (by omega) q
      · rw [if_neg h]
        rcases hw with ⟨w1, w2⟩ | ⟨b, b1, b2, b3, b4⟩
        · rw [if_pos w1, if_neg o1]
          refine ⟨nI i, .inr ⟨i, by omega, rfl, Int32.not_lt.mp h, fun k hk q => ?_⟩, rfl⟩
          by_cases hki : k = i
          · subst hki; exact Int32.le_refl _
          · exact absurd (w2 k (by omega)) (Int32.not_lt.mpr q)
        · subst b2
          have k4 : inb (nI b) 12 = true := inb_nI (by omega) (by omega)
          have k5 : (nI b).toNatClampNeg = b := nI_clamp (by omega)
          rw [if_neg (nI_m1 (by omega)), chk_of g3, chk_of k4, rd, k5]
          by_cases h2 : gA T 54 i ≤ gA T 54 b
          · rw [if_pos h2, if_pos o]
            refine ⟨_, .inr ⟨b, by omega, rfl, b3, fun k hk q => ?_⟩, rfl⟩
            by_cases hki : k = i
            · subst hki; exact h2
            · exact b4 k (by omega) q
          · rw [if_neg h2, if_neg o1]
            refine ⟨_, .inr ⟨i, by omega, rfl, Int32.not_lt.mp h, fun k hk q => ?_⟩, rfl⟩
            by_cases hki : k = i
            · subst hki; exact Int32.le_refl _
            · have := b4 k (by omega) q
              rw [le_int] at *; omega
    obtain ⟨w2, h1, h2⟩ := E
    rw [h2]; exact ih (i + 1) f w2 (by omega) (by omega) h1
theorem by_aft (t : Int32) (T : St) (n : Nat) (hn : n ≤ 12) (e2 : gI T 24 = nI n) : ∀ d i f w, i + d = n → d < f → Aft (gA T 54) t i w → ∃ w1, Aft (gA T 54) t n w1 ∧ f_X12_levelBy_l5 t 1 f (w, nI i, T) = some (w1, T) := by
  intro d
  induction d with
  | zero =>
    intro i f w hi hf hw
    have e : i = n := by omega
    subst e
    obtain ⟨f, rfl⟩ : ∃ f1, f = f1 + 1 := ⟨f - 1, by omega⟩
    refine ⟨w, hw, ?_⟩
    show f_X12_levelBy_b5 (f_X12_levelBy_l5 t 1 f) t 1 w (nI i) T = _
    unfold f_X12_levelBy_b5
    rw [e2, if_pos (nI_le (by omega) (by omega))]
  | succ d ih =>
    intro i f w hi hf hw
    obtain ⟨f, rfl⟩ : ∃ f1, f = f1 + 1 := ⟨f - 1, by omega⟩
    have g3 : inb (nI i) 12 = true := inb_nI (by omega) (by omega)
    have g4 : (nI i).toNatClampNeg = i := nI_clamp (by omega)
    have g5 : ¬ nI n ≤ nI i := nI_ge (by omega) (by omega)
    have o : (0 : Int32) = 0 := rfl
    have o1 : ¬ (1 : Int32) = 0 := by decide
    have E : ∃ w2, Aft (gA T 54) t (i + 1) w2 ∧ f_X12_levelBy_l5 t 1 (f + 1) (w, nI i, T) = f_X12_levelBy_l5 t 1 f (w2, nI (i + 1), T) := by
      have e0 : f_X12_levelBy_l5 t 1 (f + 1) (w, nI i, T) = f_X12_levelBy_b5 (f_X12_levelBy_l5 t 1 f) t 1 w (nI i) T := rfl
      rw [e0]
      unfold f_X12_levelBy_b5 f_X12_levelBy_b54 f_X12_levelBy_b50 f_X12_levelBy_b95 f_X12_levelBy_b108
      rw [e2, if_neg g5, if_neg o1, chk_of g3, nI_1, rd, g4]
      by_cases h : gA T 54 i ≤ t
      · rw [if_pos h, if_pos o]
        refine ⟨w, ?_, rfl⟩
        rcases hw with ⟨w1, w2⟩ | ⟨b, b1, b2, b3, b4⟩
        · refine .inl ⟨w1, fun k hk => ?_⟩
          by_cases hki : k = i
          · subst hki; exact h
          · exact w2 k (by omega)
        · refine .inr ⟨b, by omega, b2, b3, fun k hk q => ?_⟩
          by_cases hki : k = i
          · subst hki; exact absurd h (Int32.not_le.mpr q)
          · exact b4 k (by omega) q
      · rw [if_neg h]
        rcases hw with ⟨w1, w2⟩ | ⟨b, b1, b2, b3, b4⟩
        · rw [if_pos w1, if_neg o1]
          refine ⟨nI i, .inr ⟨i, by omega, rfl, Int32.not_le.mp h, fun k hk q => ?_⟩, rfl⟩
          by_cases hki : k = i
          · subst hki; exact Int32.le_refl _
          · exact absurd (w2 k (by omega)) (Int32.not_le.mpr q)
        · subst b2
          have k4 : inb (nI b) 12 = true := inb_nI (by omega) (by omega)
          have k5 : (nI b).toNatClampNeg = b := nI_clamp (by omega)
          rw [if_neg (nI_m1 (by omega)), chk_of g3, chk_of k4, rd, k5]
          by_cases h2 : gA T 54 b ≤ gA T 54 i
          · rw [if_pos h2, if_pos o]
            refine ⟨_, .inr ⟨b, by omega, rfl, b3, fun k hk q => ?_⟩, rfl⟩
            by_cases hki : k = i
            · subst hki; exact h2
            · exact b4 k (by omega) q
          · rw [if_neg h2, if_neg o1]
            refine ⟨_, .inr ⟨i, by omega, rfl, Int32.not_le.mp h, fun k hk q => ?_⟩, rfl⟩
            by_cases hki : k = i
            · subst hki; exact Int32.le_refl _
            · have := b4 k (by omega) q
              rw [le_int] at *; omega
    obtain ⟨w2, h1, h2⟩ := E
    rw [h2]; exact ih (i + 1) f w2 (by omega) (by omega) h1
theorem lev_den {a b : Int32} (h0 : 0 ≤ a) (h1 : a < b) (h2 : b ≤ 20000) : 0 < (b - a).toInt64 := by
  rw [lt_int] at h1
  rw [le_int] at h0 h2
  have e0 : (0 : Int32).toInt = 0 := rfl
  have e2 : (20000 : Int32).toInt = 20000 := rfl
  rw [e0] at h0; rw [e2] at h2
  have e : (b - a).toInt = b.toInt - a.toInt := subI (by omega) (by omega)
  rw [lt_int64, wideI, e]
  have e3 : (0 : Int64).toInt = 0 := rfl
  omega
theorem RLevels.at {S T : St} (R : RLevels S T) (t : Int32) : ∃ v, f_X2_at t S = some (v, S) ∧ f_X12_highAt t T = some (v, T) := by
  obtain ⟨n, hn, e1, e2, hs, hb, hf, hg, hd⟩ := R
  obtain ⟨p, p1, p2, p3, p4⟩ := at_find t S n hn e1 n 0 fuel (by omega) (by unfold fuel; omega) (fun k h => by omega)
  have p4 : f_X2_at t S = f_X2_at_b26 t (nI p) S := p4
  obtain ⟨w, w1, w2⟩ := by_bef t T n hn e2 n 0 fuel (-1) (by omega) (by unfold fuel; omega) (.inl ⟨rfl, fun k h => by omega⟩)
  have w2 : f_X12_levelBy t 0 T = some (w, T) := w2
  obtain ⟨u, u1, u2⟩ := by_aft t T n hn e2 n 0 fuel (-1) (by omega) (by unfold fuel; omega) (.inl ⟨rfl, fun k h => by omega⟩)
  have u2 : f_X12_levelBy t 1 T = some (u, T) := u2
  rw [p4]
  unfold f_X12_highAt f_X12_highAt_b0 f_X12_highAt_b36 f_X2_at_b26 f_X2_at_b54
  simp only [w2, u2, bnd_mk, vlet_eq, e1]
  have mono : ∀ i j, i ≤ j → j < n → gA S 18 i ≤ gA S 18 j := by
    intro i j hij hj
    rcases Nat.lt_or_eq_of_le hij with q | q
    · exact Int32.le_of_lt (hs i j q hj)
    · subst q; exact Int32.le_refl _
  -- before
  have hw : (p = 0 ∧ w = -1) ∨ ∃ q b, p = q + 1 ∧ b < n ∧ w = nI b ∧ gA T 54 b = gA S 18 q ∧ gA T 55 b = gA S 19 q ∧ gA T 56 b = gA S 20 q := by
    rcases w1 with ⟨q1, q2⟩ | ⟨b, q1, q2, q3, q4⟩
    · refine .inl ⟨?_, q1⟩
      rcases Nat.eq_zero_or_pos p with h | h
      · exact h
      · obtain ⟨j, j1, j2, _⟩ := hf 0 (by omega)
        have h5 := q2 j j1
        have h6 := p2 0 h
        rw [j2, lt_int] at h5; rw [le_int] at h6; omega
    · obtain ⟨i0, i1, i2, i3, i4⟩ := hg b q1
      have h7 : i0 < p := by
        rcases Nat.lt_or_ge i0 p with h | h
        · exact h
        · have h5 := p3 (by omega)
          have h6 := mono p i0 h i1
          rw [i2] at q3
          rw [lt_int] at h5; rw [le_int] at h6 q3; omega
      have h8 : i0 = p - 1 := by
        rcases Nat.lt_or_eq_of_le (show i0 ≤ p - 1 by omega) with h | h
        · obtain ⟨j, j1, j2, _⟩ := hf (p - 1) (by omega)
          have h5 := q4 j j1 (by rw [j2]; exact p2 _ (by omega))
          have h6 := hs i0 (p - 1) h (by omega)
          rw [j2, i2, le_int] at h5; rw [lt_int] at h6; omega
        · exact h
      subst h8
      exact .inr ⟨p - 1, b, by omega, q1, q2, i2, i3, i4⟩
  -- after
  have hu : (p = n ∧ u = -1) ∨ ∃ b, p < n ∧ b < n ∧ u = nI b ∧ gA T 54 b = gA S 18 p ∧ gA T 55 b = gA S 19 p ∧ gA T 56 b = gA S 20 p := by
    rcases u1 with ⟨q1, q2⟩ | ⟨b, q1, q2, q3, q4⟩
    · refine .inl ⟨?_, q1⟩
      rcases Nat.lt_or_eq_of_le p1 with h | h
      · obtain ⟨j, j1, j2, _⟩ := hf p h
        have h5 := q2 j j1
        have h6 := p3 h
        rw [j2, le_int] at h5; rw [lt_int] at h6; omega
      · exact h
    · obtain ⟨i0, i1, i2, i3, i4⟩ := hg b q1
      have h7 : p ≤ i0 := by
        rcases Nat.lt_or_ge i0 p with h | h
        · have h5 := p2 i0 h
          rw [i2] at q3
          rw [lt_int] at q3; rw [le_int] at h5; omega
        · exact h
      have h8 : i0 = p := by
        rcases Nat.lt_or_eq_of_le h7 with h | h
        · obtain ⟨j, j1, j2, _⟩ := hf p (by omega)
          have h5 := q4 j j1 (by rw [j2]; exact p3 (by omega))
          have h6 := hs p i0 h i1
          rw [j2, i2, le_int] at h5; rw [lt_int] at h6; omega
        · exact h.symm
      subst h8
      exact .inr ⟨b, i1, q1, q2, i2, i3, i4⟩
  have P : ∀ {x y : Int32}, x = y → ∃ v, some (x, S) = some (v, S) ∧ some (y, T) = some (v, T) := fun {x y} h => ⟨x, rfl, by rw [h]⟩
  rcases hw with ⟨rfl, rfl⟩ | ⟨q, b, rfl, b1, rfl, b2, b3, b4⟩
  · simp only [if_pos (show nI 0 = 0 from rfl), if_pos (show (-1 : Int32) = -1 from rfl)]; exact P rfl
  · have c1 : ¬ nI (q + 1) = 0 := nI_ne0 (by omega) (by omega)
    have c2 : inb (nI b) 12 = true := inb_nI (by omega) (by omega)
    have c3 : (nI b).toNatClampNeg = b := nI_clamp (by omega)
    have c4 : inb (nI q) 12 = true := inb_nI (by omega) (by omega)
    have c5 : (nI q).toNatClampNeg = q := nI_clamp (by omega)
    have c6 : ¬ nI b = -1 := nI_m1 (by omega)
    rcases hu with ⟨d1, rfl⟩ | ⟨c, d1, d2, rfl, d3, d4, d5⟩
    · subst d1
      simp only [if_neg c1, nI_pred, if_neg c6, chk_of c2, chk_of c4, rd, c3, c5, reduceIte]
      exact P b3.symm
    · have f1 : inb (nI c) 12 = true := inb_nI (by omega) (by omega)
      have f2 : (nI c).toNatClampNeg = c := nI_clamp (by omega)
      have f3 : inb (nI (q + 1)) 12 = true := inb_nI (by omega) (by omega)
      have f4 : (nI (q + 1)).toNatClampNeg = q + 1 := nI_clamp (by omega)
      have f5 : ¬ nI (q + 1) = nI n := fun e => by have := (nI_eq (by omega) (by omega)).mp e; omega
      have f6 : ¬ nI c = -1 := nI_m1 (by omega)
      simp only [if_neg c1, nI_pred, if_neg c6, if_neg f5, if_neg f6, chk_of c2, chk_of c4, chk_of f1, chk_of f3, rd, c3, c5, f2, f4, b2, b3, b4, d3, d4, d5]
      by_cases hz : gA S 20 (q + 1) = 0
      · simp only [if_pos hz]; exact P rfl
      · have g6 := lev_den (hb q (by omega)).1.1 (hs q (q + 1) (by omega) d1) (hb (q + 1) d1).1.2
        simp only [if_neg hz, quot_eq g6, floor_eq g6, bnd_mk]; exact P rfl
theorem op_levelAt (a1 : Int32) : Op (f_X11_levelAt a1) (f_X12_levelAt a1) := by
  intro S T R
  obtain ⟨v, hC, hM⟩ := R.2.2.1.at a1
  unfold f_X11_levelAt f_X11_levelAt_b0 f_X11_levelAt_b24 f_X12_levelAt f_X12_levelAt_b0 f_X12_levelAt_b23
  simp only [isTick_eq, bnd_mk, ite01, in_w a1 0 20000 (lo := 0) (hi := 20000) (by decide) (by decide), hC, hM]
  by_cases h1 : 0 ≤ a1 ∧ a1 ≤ 20000
  · simp only [if_pos h1]; exact ⟨_, _, _, rfl, rfl, R⟩
  · simp only [if_neg h1]; exact ⟨_, _, _, rfl, rfl, R⟩
