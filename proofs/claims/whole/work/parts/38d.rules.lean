/-! ===== plain, rule, value, why ===== -/
theorem clear_key (x : Int32) : ∀ (d i f : Nat) (S : St), i + d = 52 → d < f → ∃ S1, f_X8_clear_l17 x f (nI i, S) = some (x, S1) ∧ gI S1 6 = gI S 6 ∧ ∀ k, (k < i → gA S1 30 k = gA S 30 k) ∧ (i ≤ k → k < 52 → gA S1 30 k = -1) := by
  intro d
  induction d with
  | zero =>
    intro i f S hi hf
    have e : i = 52 := by omega
    subst e
    obtain ⟨f, rfl⟩ : ∃ f1, f = f1 + 1 := ⟨f - 1, by omega⟩
    exact ⟨S, rfl, rfl, fun k => ⟨fun _ => rfl, fun h1 h2 => by omega⟩⟩
  | succ d ih =>
    intro i f S hi hf
    obtain ⟨f, rfl⟩ : ∃ f1, f = f1 + 1 := ⟨f - 1, by omega⟩
    have g1 : inb (nI i) 52 = true := inb_nI (by omega) (by omega)
    have g2 : (nI i).toNatClampNeg = i := nI_clamp (by omega)
    have g5 : ¬ (52 : Int32) ≤ nI i := nI_ge (b := 52) (by omega) (by omega)
    have E : f_X8_clear_l17 x (f + 1) (nI i, S) = f_X8_clear_l17 x f (nI (i + 1), wr S 30 (nI i) (-1)) := by
      show f_X8_clear_b17 (f_X8_clear_l17 x f) x (nI i) S = _
      unfold f_X8_clear_b17
      rw [if_neg g5, chk_of g1, vlet_eq, nI_1]
    obtain ⟨S1, h1, h2, h3⟩ := ih (i + 1) f (wr S 30 (nI i) (-1)) (by omega) (by omega)
    refine ⟨S1, E.trans h1, h2, fun k => ⟨fun hk => ?_, fun h4 h5 => ?_⟩⟩
    · rw [(h3 k).1 (by omega), gA_wr, if_pos rfl, g2, upd_ne (by omega)]
    · by_cases hki : k = i
      · subst hki; rw [(h3 k).1 (by omega), gA_wr, if_pos rfl, g2, upd_self]
      · exact (h3 k).2 (by omega) h5
theorem fuel_gt {n : Nat} (h : n < 1000000) : n < fuel := h
theorem plain_core {S T : St} {n : Nat} (e1 : gI S 6 = nI n) (e2 : gI T 28 = nI n) : ∃ S1, f_X11_plain S = some (nI n, S1) ∧ f_X12_plain T = some (nI n, pI T 28 0) ∧ gI S1 6 = nI 0 ∧ ∀ k, k < 52 → gA S1 30 k = -1 := by
  obtain ⟨S1, h1, h2, h3⟩ := clear_key (nI n) 52 0 fuel (pI (pI S 6 0) 7 0) (Nat.zero_add 52) (fuel_gt (by decide))
  refine ⟨S1, ?_, ?_, h2, fun k hk => (h3 k).2 (Nat.zero_le k) hk⟩
  · unfold f_X11_plain f_X11_plain_b0 f_X8_clear f_X8_clear_b0
    rw [bnd_id, vlet_eq, vlet_eq, vlet_eq, e1]; exact h1
  · unfold f_X12_plain f_X12_plain_b0
    rw [vlet_eq, vlet_eq, e2]
theorem op_plain : Op f_X11_plain f_X12_plain := by
  intro S T R
  have R0 := R
  suffices hh : ∃ r S1 T1, f_X11_plain S = some (r, S1) ∧ f_X12_plain T = some (r, T1) ∧ RRules S1 T1 by
    obtain ⟨r, S1, T1, hC, hM, h⟩ := hh
    obtain ⟨r1, r2, r3, r4, r5, r6, r7, r8, r9⟩ := R
    have F := fr_X11_plain S hC
    have G := fr_X12_plain T hM
    refine ⟨r, S1, T1, hC, hM, ?_⟩
    exact ⟨(r1.c (F.1 _ rfl) (F.2.1 _ rfl) (F.2.1 _ rfl) (F.2.1 _ rfl) (F.2.1 _ rfl) (F.2.1 _ rfl)).m (G.1 _ rfl) (G.2.1 _ rfl) (G.2.1 _ rfl) (G.2.1 _ rfl) (G.2.1 _ rfl) (G.2.1 _ rfl), (r2.c (F.1 _ rfl) (F.1 _ rfl)).m (G.1 _ rfl) (G.1 _ rfl), (r3.c (F.1 _ rfl) (F.2.1 _ rfl) (F.2.1 _ rfl) (F.2.1 _ rfl)).m (G.1 _ rfl) (G.2.1 _ rfl) (G.2.1 _ rfl) (G.2.1 _ rfl), (r4.c (F.1 _ rfl) (F.2.1 _ rfl) (F.2.1 _ rfl) (F.2.1 _ rfl)).m (G.1 _ rfl) (G.2.1 _ rfl) (G.2.1 _ rfl) (G.2.1 _ rfl), (r5.c (F.1 _ rfl) (F.2.1 _ rfl)).m (G.1 _ rfl) (G.2.1 _ rfl), h, (r7.c (F.1 _ rfl) (F.1 _ rfl) (F.2.1 _ rfl) (fun c h => F.2.1 _ (all_not (p := fun k => decide (k < 42)) rfl (decide_eq_false (by omega))))).m (G.1 _ rfl) (G.2.1 _ rfl), r8.c (fun k => (F.2.2.2 rfl k).2), (G.2.2.1 _ rfl).trans (r9.trans (F.2.2.1 _ rfl).symm)⟩
  obtain ⟨n, hn, e1, e2, hk, ht⟩ := R.2.2.2.2.2.1
  obtain ⟨S1, h1, h2, h3, h4⟩ := plain_core e1 e2
  exact ⟨nI n, S1, pI T 28 0, h1, h2, 0, Nat.zero_le 24, h3, rfl, fun k hk => absurd hk (Nat.not_lt_zero k), fun v m hv hm => h4 _ (by omega)⟩
theorem op_rule (a1 a2 : Int32) : Op (f_X11_rule a1 a2) (f_X12_rule a1 a2) := by
  intro S T R
  obtain ⟨n, hn, e1, e2, hk, ht⟩ := R.2.2.2.2.2.1
  unfold f_X11_rule f_X11_rule_b0 f_X11_rule_b34 f_X11_rule_b37 f_X8_has f_X8_has_b0 f_X12_rule f_X12_rule_b0 f_X12_rule_b78
  simp only [isWithin_eq, bnd_mk, chk_of isB_ite, ite01, in_w a1 0 (nI n - 1) (lo := 0) (hi := (nI n - 1).toInt64) (by decide) rfl, e1, e2]
  by_cases h1 : 0 ≤ a1 ∧ a1 ≤ nI n - 1
  case neg => simp only [if_neg h1]; exact ⟨_, _, _, rfl, rfl, R⟩
  simp only [if_pos h1]
  obtain ⟨i, hi, rfl⟩ := (in_cnt rfl (by omega)).mp h1
  have g1 : inb (nI i) 24 = true := inb_nI (by omega) (by omega)
  have g2 : (nI i).toNatClampNeg = i := nI_clamp (by omega)
  obtain ⟨q1, q2, q3, q4⟩ := (hk i hi).1
  by_cases h2 : 0 ≤ a2 ∧ a2 ≤ 3
  · simp only [if_pos h2]
    obtain ⟨c, hc3, rfl⟩ := (upto (n := 3) rfl (by omega)).mp h2
    have hs : c = 0 ∨ c = 1 ∨ c = 2 ∨ c = 3 := by omega
    rcases hs with rfl | rfl | rfl | rfl
    · simp only [if_pos (show nI 0 = 0 from rfl), chk_of (show inb (nI 0) 4 = true from rfl), chk_of g1, rd, g2, q1]
      exact ⟨_, _, _, rfl, rfl, R⟩
    · simp only [if_neg (show ¬ nI 1 = 0 by decide), if_pos (show nI 1 = 1 from rfl), chk_of (show inb (nI 1) 4 = true from rfl), chk_of g1, rd, g2, q2]
      exact ⟨_, _, _, rfl, rfl, R⟩
    · simp only [if_neg (show ¬ nI 2 = 0 by decide), if_neg (show ¬ nI 2 = 1 by decide), if_pos (show nI 2 = 2 from rfl), chk_of (show inb (nI 2) 4 = true from rfl), chk_of g1, rd, g2, q3]
      exact ⟨_, _, _, rfl, rfl, R⟩
    · simp only [if_neg (show ¬ nI 3 = 0 by decide), if_neg (show ¬ nI 3 = 1 by decide), if_neg (show ¬ nI 3 = 2 by decide), if_pos (show nI 3 = 3 from rfl), chk_of (show inb (nI 3) 4 = true from rfl), chk_of g1, rd, g2, q4]
      exact ⟨_, _, _, rfl, rfl, R⟩
  · have c0 : ¬ a2 = 0 := fun e => h2 (by subst e; decide)
    have c1 : ¬ a2 = 1 := fun e => h2 (by subst e; decide)
    have c2 : ¬ a2 = 2 := fun e => h2 (by subst e; decide)
    have c3 : ¬ a2 = 3 := fun e => h2 (by subst e; decide)
    simp only [if_neg h2, if_neg c0, if_neg c1, if_neg c2, if_neg c3]; exact ⟨_, _, _, rfl, rfl, R⟩
theorem cntF_succ (V N R : Nat → Int32) (v m : Int32) (k : Nat) : cntF V N R v m (k + 1) = if N k = m ∧ (V k = -1 ∨ V k = v) then (if cntF V N R v m k = -1 then nI k else if R k < R (cntF V N R v m k).toNatClampNeg then cntF V N R v m k else nI k) else cntF V N R v m k := rfl
theorem cntF_is (V N R : Nat → Int32) (v m : Int32) : ∀ n, cntF V N R v m n = -1 ∨ ∃ k, k < n ∧ cntF V N R v m n = nI k ∧ N k = m
  | 0 => .inl rfl
  | n + 1 => by
    have ih := cntF_is V N R v m n
    unfold cntF
    by_cases h : N n = m ∧ (V n = -1 ∨ V n = v)
    · rw [if_pos h]
      by_cases h2 : cntF V N R v m n = -1
      · rw [if_pos h2]; exact .inr ⟨n, by omega, rfl, h.1⟩
      · rw [if_neg h2]
        split
        · rcases ih with q | ⟨k, k1, k2, k3⟩
          · exact .inl q
          · exact .inr ⟨k, by omega, k2, k3⟩
        · exact .inr ⟨n, by omega, rfl, h.1⟩
    · rw [if_neg h]
      rcases ih with q | ⟨k, k1, k2, k3⟩
      · exact .inl q
      · exact .inr ⟨k, by omega, k2, k3⟩
theorem counts_key {S T : St} {n : Nat} (hn : n ≤ 24) (e2 : gI T 28 = nI n) (hk : ∀ k, k < n → gA T 60 k = gA S 26 k ∧ gA T 61 k = gA S 27 k ∧ gA T 62 k = gA S 28 k ∧ gA T 63 k = gA S 29 k) (v m : Int32) : ∀ d i f, i + d = n → d < f → f_X12_counts_l5 v m f (cntF (gA S 26) (gA S 27) (gA S 29) v m i, nI i, T) = some (cntF (gA S 26) (gA S 27) (gA S 29) v m n, T) := by
  intro d
  induction d with
  | zero =>
    intro i f hi hf
    have e : i = n := by omega
    subst e
    obtain ⟨f, rfl⟩ : ∃ f1, f = f1 + 1 := ⟨f - 1, by omega⟩
    show f_X12_counts_b5 (f_X12_counts_l5 v m f) v m _ (nI i) T = _
    unfold f_X12_counts_b5
    rw [e2, if_pos (nI_le (by omega) (by omega))]
  | succ d ih =>
    intro i f hi hf
    obtain ⟨f, rfl⟩ : ∃ f1, f = f1 + 1 := ⟨f - 1, by omega⟩
    have g1 : inb (nI i) 24 = true := inb_nI (by omega) (by omega)
    have g2 : (nI i).toNatClampNeg = i := nI_clamp (by omega)
    have g5 : ¬ nI n ≤ nI i := nI_ge (by omega) (by omega)
    obtain ⟨q1, q2, q3, q4⟩ := hk i (by omega)
    have E : f_X12_counts_l5 v m (f + 1) (cntF (gA S 26) (gA S 27) (gA S 29) v m i, nI i, T) = f_X12_counts_l5 v m f (cntF (gA S 26) (gA S 27) (gA S 29) v m (i + 1), nI (i + 1), T) := by
      show f_X12_counts_b5 (f_X12_counts_l5 v m f) v m _ (nI i) T = _
      have is := cntF_is (gA S 26) (gA S 27) (gA S 29) v m i
      rw [cntF_succ]
      unfold f_X12_counts_b5 f_X12_counts_b47 f_X12_counts_b51 f_X12_counts_b52 f_X12_counts_b85 f_X12_counts_b80 f_X12_counts_b86
      generalize cntF (gA S 26) (gA S 27) (gA S 29) v m i = c at is ⊢
      simp only [e2, if_neg g5, chk_of g1, rd, g2, nI_1, q1, q2]
      have o1 : ¬ (1 : Int32) = 0 := by decide
      have o0 : (0 : Int32) = 0 := rfl
      have body : (if c = -1 then f_X12_counts_l5 v m f (nI i, nI (i + 1), T) else chk (inb c 24) (if gA T 63 i < gA T 63 c.toNatClampNeg then f_X12_counts_l5 v m f (c, nI (i + 1), T) else f_X12_counts_l5 v m f (nI i, nI (i + 1), T))) = f_X12_counts_l5 v m f (if c = -1 then nI i else if gA S 29 i < gA S 29 c.toNatClampNeg then c else nI i, nI (i + 1), T) := by
        by_cases h : c = -1
        · rw [if_pos h, if_pos h]
        · rw [if_neg h, if_neg h]
          rcases is with q | ⟨k, k1, k2, k3⟩
          · exact absurd q h
          · subst k2
            have k4 : inb (nI k) 24 = true := inb_nI (by omega) (by omega)
            have k5 : (nI k).toNatClampNeg = k := nI_clamp (by omega)
            rw [chk_of k4, k5, q4, (hk k (by omega)).2.2.2]
            split <;> rfl
      by_cases h : gA S 27 i = m
      · by_cases h2 : gA S 26 i = -1
        · simp only [if_pos h, if_pos h2, if_neg o1, if_pos (And.intro h (Or.inl h2 : gA S 26 i = -1 ∨ gA S 26 i = v))]; exact body
        · by_cases h3 : gA S 26 i = v
          · simp only [if_pos h, if_neg h2, if_pos h3, if_neg o1, if_pos (And.intro h (Or.inr h3 : gA S 26 i = -1 ∨ gA S 26 i = v))]; exact body
          · have h4 : ¬ (gA S 27 i = m ∧ (gA S 26 i = -1 ∨ gA S 26 i = v)) := by rintro ⟨_, r | r⟩; exact h2 r; exact h3 r
            simp only [if_neg h4]
            simp only [if_pos h, if_neg h2, if_neg h3, reduceIte]
      · have h4 : ¬ (gA S 27 i = m ∧ (gA S 26 i = -1 ∨ gA S 26 i = v)) := fun r => h r.1
        simp only [if_neg h4]
        simp only [if_neg h, reduceIte]
    rw [E]
    exact ih (i + 1) f (by omega) (by omega)
theorem RRules.cnt {S T : St} (R : RRules S T) {v m : Nat} (hv : v < 4) (hm : m < 13) : ∃ c, f_X8_countingFor (nI v) (nI m) S = some (c, S) ∧ f_X12_counts (nI v) (nI m) T = some (c, T) ∧ (c = -1 ∨ ∃ k, k < 24 ∧ c = nI k ∧ gA T 62 k = gA S 28 k ∧ tbr 1 (nI m) ≤ gA S 28 k ∧ gA S 28 k ≤ tbr 2 (nI m)) := by
  obtain ⟨n, hn, e1, e2, hk, ht⟩ := R
  refine ⟨cntF (gA S 26) (gA S 27) (gA S 29) (nI v) (nI m) n, ?_, ?_, ?_⟩
  · unfold f_X8_countingFor f_X8_countingFor_b0
    have e : nI v * 13 + nI m = nI (v * 13 + m) := by rw [show (13 : Int32) = nI 13 from rfl, pk_mul, nI_add]
    rw [e, chk_of (inb_nI (show v * 13 + m < 52 by omega) (by omega)), rd, nI_clamp (show v * 13 + m < 2 ^ 31 by omega), ht v m hv hm]
  · exact counts_key hn e2 (fun k h => (hk k h).1) (nI v) (nI m) n 0 fuel (by omega) (by unfold fuel; omega)
  · rcases cntF_is (gA S 26) (gA S 27) (gA S 29) (nI v) (nI m) n with q | ⟨k, k1, k2, k3⟩
    · exact .inl q
    · refine .inr ⟨k, by omega, k2, (hk k k1).1.2.2.1, ?_⟩
      have := (hk k k1).2.2.2.1
      rw [k3] at this
      exact this
theorem usual_eq (T : St) : ∀ m, m < 13 → f_X12_usual (nI m) T = some (tbr 0 (nI m), T) ∧ inb (nI m) 13 = true ∧ tbr 1 (nI m) ≤ tbr 0 (nI m) ∧ tbr 0 (nI m) ≤ tbr 2 (nI m) := by
  intro m hm
  have hs : m = 0 ∨ m = 1 ∨ m = 2 ∨ m = 3 ∨ m = 4 ∨ m = 5 ∨ m = 6 ∨ m = 7 ∨ m = 8 ∨ m = 9 ∨ m = 10 ∨ m = 11 ∨ m = 12 := by omega
  rcases hs with rfl | rfl | rfl | rfl | rfl | rfl | rfl | rfl | rfl | rfl | rfl | rfl | rfl <;> exact ⟨rfl, rfl, by decide, by decide⟩
theorem RRules.num {S T : St} (R : RRules S T) {v m : Nat} (hv : v < 4) (hm : m < 13) : ∃ x, f_X8_numberFor (nI v) (nI m) S = some (x, S) ∧ f_X12_number (nI v) (nI m) T = some (x, T) ∧ tbr 1 (nI m) ≤ x ∧ x ≤ tbr 2 (nI m) := by
  obtain ⟨c, hC, hM, hc⟩ := R.cnt hv hm
  obtain ⟨u1, u2, u3, u4⟩ := usual_eq T m hm
  unfold f_X8_numberFor f_X8_numberFor_b0 f_X8_numberFor_b28 f_X12_number f_X12_number_b0 f_X12_number_b25
  rw [hC, hM, bnd_mk, bnd_mk]
  rcases hc with rfl | ⟨k, k1, rfl, k3, k4, k5⟩
  · rw [if_pos rfl, if_pos rfl, chk_of u2, u1, bnd_mk]
    exact ⟨_, rfl, rfl, u3, u4⟩
  · have g1 : inb (nI k) 24 = true := inb_nI (by omega) (by omega)
    have g2 : (nI k).toNatClampNeg = k := nI_clamp (by omega)
    rw [if_neg (nI_m1 (by omega)), if_neg (nI_m1 (by omega)), chk_of g1, chk_of g1, rd, rd, g2, k3]
    exact ⟨_, rfl, rfl, k4, k5⟩
theorem has3_eq (a : Int32) (S : St) : f_X3_has a S = some (if 0 ≤ a ∧ a ≤ 12 then 1 else 0, S) := by
  unfold f_X3_has f_X3_has_b0; rw [isWithin_eq, bnd_mk, chk_of isB_ite]
theorem op_value (a1 a2 : Int32) : Op (f_X11_value a1 a2) (f_X12_value a1 a2) := by
  intro S T R
  unfold f_X11_value f_X11_value_b0 f_X11_value_b26 f_X11_value_b29 f_X12_value f_X12_value_b0 f_X12_value_b33 f_X12_value_b36
  simp only [isVoice_eq, has3_eq, bnd_mk, ite01, in_w a1 0 3 (lo := 0) (hi := 3) (by decide) (by decide), in_w a2 0 12 (lo := 0) (hi := 12) (by decide) (by decide), bnd_id]
  by_cases h1 : 0 ≤ a1 ∧ a1 ≤ 3
  case neg => simp only [if_neg h1]; exact ⟨_, _, _, rfl, rfl, R⟩
  by_cases h2 : 0 ≤ a2 ∧ a2 ≤ 12
  case neg => simp only [if_pos h1, if_neg h2]; exact ⟨_, _, _, rfl, rfl, R⟩
  obtain ⟨v, hv, rfl⟩ := (upto (n := 3) rfl (by omega)).mp h1
  obtain ⟨m, hm, rfl⟩ := (upto (n := 12) rfl (by omega)).mp h2
  obtain ⟨x, hC, hM, _⟩ := R.2.2.2.2.2.1.num (show v < 4 by omega) (show m < 13 by omega)
  simp only [if_pos h1, if_pos h2, hC, hM]
  exact ⟨_, _, _, rfl, rfl, R⟩
theorem op_why (a1 a2 : Int32) : Op (f_X11_why a1 a2) (f_X12_why a1 a2) := by
  intro S T R
  unfold f_X11_why f_X11_why_b0 f_X11_why_b26 f_X11_why_b29 f_X12_why f_X12_why_b0 f_X12_why_b33 f_X12_why_b36
  simp only [isVoice_eq, has3_eq, bnd_mk, ite01, in_w a1 0 3 (lo := 0) (hi := 3) (by decide) (by decide), in_w a2 0 12 (lo := 0) (hi := 12) (by decide) (by decide), bnd_id]
  by_cases h1 : 0 ≤ a1 ∧ a1 ≤ 3
  case neg => simp only [if_neg h1]; exact ⟨_, _, _, rfl, rfl, R⟩
  by_cases h2 : 0 ≤ a2 ∧ a2 ≤ 12
  case neg => simp only [if_pos h1, if_neg h2]; exact ⟨_, _, _, rfl, rfl, R⟩
  obtain ⟨v, hv, rfl⟩ := (upto (n := 3) rfl (by omega)).mp h1
  obtain ⟨m, hm, rfl⟩ := (upto (n := 12) rfl (by omega)).mp h2
  obtain ⟨x, hC, hM, _⟩ := R.2.2.2.2.2.1.cnt (show v < 4 by omega) (show m < 13 by omega)
  simp only [if_pos h1, if_pos h2, hC, hM]
  exact ⟨_, _, _, rfl, rfl, R⟩
