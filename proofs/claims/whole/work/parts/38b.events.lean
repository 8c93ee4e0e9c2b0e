/-! ===== asking about events ===== -/
theorem ix6 (i c : Nat) : (6 : Int32) * nI i + nI c = nI (6 * i + c) := by
  rw [show (6 : Int32) = nI 6 from rfl, pk_mul, nI_add]
theorem ix60 (i : Nat) : (6 : Int32) * nI i + 0 = nI (6 * i + 0) := ix6 i 0
theorem ix6z (i : Nat) : (6 : Int32) * nI i = nI (6 * i) := by rw [show (6 : Int32) = nI 6 from rfl, pk_mul]
theorem nI_p1 (a : Nat) : nI a + 1 = nI (a + 1) := nI_add a 1
theorem nI_p4 (a : Nat) : nI a + 4 = nI (a + 4) := nI_add a 4
theorem ix61 (i : Nat) : (6 : Int32) * nI i + 1 = nI (6 * i + 1) := ix6 i 1
theorem ix62 (i : Nat) : (6 : Int32) * nI i + 2 = nI (6 * i + 2) := ix6 i 2
theorem ix63 (i : Nat) : (6 : Int32) * nI i + 3 = nI (6 * i + 3) := ix6 i 3
theorem ix64 (i : Nat) : (6 : Int32) * nI i + 4 = nI (6 * i + 4) := ix6 i 4
theorem ix65 (i : Nat) : (6 : Int32) * nI i + 5 = nI (6 * i + 5) := ix6 i 5
theorem in6 {i c : Nat} (h : i < 400) (hc : c < 6) : inb (nI (6 * i + c)) 2400 = true := inb_nI (by omega) (by omega)
theorem cl6 {i c : Nat} (h : i < 400) (hc : c < 6) : (nI (6 * i + c)).toNatClampNeg = 6 * i + c := nI_clamp (by omega)
theorem upto {a : Int32} {n : Nat} {m : Int32} (hm : m = nI n) (hn : n < 2 ^ 31) : (0 ≤ a ∧ a ≤ m) ↔ ∃ j, j ≤ n ∧ a = nI j := by
  subst hm
  constructor
  · intro h
    obtain ⟨j, hj, e⟩ := nI_of (Int32.not_lt.mpr h.1)
    have := le_int.mp h.2
    rw [e, nI_toInt hj, nI_toInt hn] at this
    exact ⟨j, by omega, e⟩
  · rintro ⟨j, hj, rfl⟩
    exact ⟨nI_pos' (by omega), nI_le hj hn⟩
theorem op_event (a1 a2 : Int32) : Op (f_X11_event a1 a2) (f_X12_event a1 a2) := by
  intro S T R
  have R0 := R
  obtain ⟨⟨m, hm, d1, d2, hk⟩, r2, r3, r4, r5, r6, ⟨n, hn, e1, e2, hc, hs⟩, r8, r9⟩ := R
  unfold f_X11_event f_X11_event_b0 f_X11_event_b35 f_X11_event_b38 f_X1_has f_X1_has_b0 f_X12_event f_X12_event_b0 f_X12_event_b28 f_X12_event_b68
  simp only [isWithin_eq, bnd_mk, chk_of isB_ite, ite01, in_w a1 0 (nI n - 1) (lo := 0) (hi := (nI n - 1).toInt64) (by decide) rfl, in_w a2 0 6 (lo := 0) (hi := 6) (by decide) (by decide), e1, e2]
  by_cases h1 : 0 ≤ a1 ∧ a1 ≤ nI n - 1
  case neg => simp only [if_neg h1]; exact ⟨_, _, _, rfl, rfl, R0⟩
  by_cases h2 : 0 ≤ a2 ∧ a2 ≤ 6
  case neg => simp only [if_pos h1, if_neg h2]; exact ⟨_, _, _, rfl, rfl, R0⟩
  simp only [if_pos h1, if_pos h2]
  obtain ⟨i, hi, rfl⟩ := (in_cnt rfl (by omega)).mp h1
  obtain ⟨c, hc6, rfl⟩ := (upto (n := 6) rfl (by omega)).mp h2
  have g1 : inb (nI i) 400 = true := inb_nI (by omega) (by omega)
  have g2 : (nI i).toNatClampNeg = i := nI_clamp (by omega)
  have g3 : inb (nI c) 7 = true := inb_nI (by omega) (by omega)
  have g4 : (nI c).toNatClampNeg = c := nI_clamp (by omega)
  obtain ⟨h3, j, j1, j2, j3, j4⟩ := hc i hi
  by_cases hq : c = 6
  · subst hq
    have k1 : inb (nI j) 48 = true := inb_nI (by omega) (by omega)
    have k2 : (nI j).toNatClampNeg = j := nI_clamp (by omega)
    have k3 := h3 4 (by omega)
    have k4 : j < m := by rw [d1] at j1; exact (nI_ltI (by omega) (by omega)).mp j1
    simp only [chk_of g1, chk_of g3, rd, g2, g4, if_pos (show nI 6 = 6 from rfl), ix64, chk_of (in6 (show i < 400 by omega) (show 4 < 6 by omega)), cl6 (show i < 400 by omega) (show 4 < 6 by omega), k3, j3, chk_of k1, k2, (hk j k4).1.1, j4, Nat.reduceAdd]
    exact ⟨_, _, _, rfl, rfl, R0⟩
  · have k5 : ¬ nI c = 6 := fun e => hq ((nI_eq (b := 6) (by omega) (by omega)).mp e)
    simp only [chk_of g1, chk_of g3, rd, g2, g4, if_neg k5, ix6, chk_of (in6 (show i < 400 by omega) (show c < 6 by omega)), cl6 (show i < 400 by omega) (show c < 6 by omega), h3 c (by omega)]
    exact ⟨_, _, _, rfl, rfl, R0⟩
theorem op_sounding (a1 : Int32) : Op (f_X11_sounding a1) (f_X12_sounding a1) := by
  intro S T R
  obtain ⟨n, hn, e1, e2, hc, hs⟩ := R.2.2.2.2.2.2.1
  have key : ∀ d i f v, i + d = n → d < f → ∃ w, f_X1_soundingAt_l4 a1 f (v, nI i, S) = some (w, S) ∧ f_X12_sounding_l4 a1 f (v, nI i, T) = some (w, T) := by
    intro d
    induction d with
    | zero =>
      intro i f v hi hf
      have e : i = n := by omega
      subst e
      obtain ⟨f, rfl⟩ : ∃ f1, f = f1 + 1 := ⟨f - 1, by omega⟩
      refine ⟨v, ?_, ?_⟩
      · show f_X1_soundingAt_b4 (f_X1_soundingAt_l4 a1 f) a1 v (nI i) S = _
        unfold f_X1_soundingAt_b4
        rw [e1, if_pos (nI_le (by omega) (by omega))]
      · show f_X12_sounding_b4 (f_X12_sounding_l4 a1 f) a1 v (nI i) T = _
        unfold f_X12_sounding_b4
        rw [e2, if_pos (nI_le (by omega) (by omega))]
    | succ d ih =>
      intro i f v hi hf
      obtain ⟨f, rfl⟩ : ∃ f1, f = f1 + 1 := ⟨f - 1, by omega⟩
      have g1 : inb (nI i) 400 = true := inb_nI (by omega) (by omega)
      have g2 : (nI i).toNatClampNeg = i := nI_clamp (by omega)
      have g5 : ¬ nI n ≤ nI i := nI_ge (by omega) (by omega)
      have h3 := (hc i (by omega)).1
      have q0 := h3 0 (by omega)
      have q1 := h3 1 (by omega)
      have E1 : f_X1_soundingAt_l4 a1 (f + 1) (v, nI i, S) = f_X1_soundingAt_l4 a1 f (if a1 < gA S 42 i ∨ gA S 42 i + gA S 43 i ≤ a1 then v else v + 1, nI (i + 1), S) := by
        show f_X1_soundingAt_b4 (f_X1_soundingAt_l4 a1 f) a1 v (nI i) S = _
        unfold f_X1_soundingAt_b4 f_X1_soundingAt_b36 f_X1_endOf f_X1_endOf_b0
        rw [e1, if_neg g5, chk_of g1, chk_of g1, chk_of g1, bnd_mk, nI_1]
        simp only [rd, g2]
        by_cases h : a1 < gA S 42 i
        · rw [if_pos h, if_pos (.inl h)]
        · by_cases h2 : gA S 42 i + gA S 43 i ≤ a1
          · rw [if_neg h, if_pos h2, if_pos (.inr h2)]
          · rw [if_neg h, if_neg h2, if_neg (by rintro (r | r); exact h r; exact h2 r)]
      have E2 : f_X12_sounding_l4 a1 (f + 1) (v, nI i, T) = f_X12_sounding_l4 a1 f (if a1 < gA S 42 i ∨ gA S 42 i + gA S 43 i ≤ a1 then v else v + 1, nI (i + 1), T) := by
        show f_X12_sounding_b4 (f_X12_sounding_l4 a1 f) a1 v (nI i) T = _
        unfold f_X12_sounding_b4 f_X12_sounding_b55 f_X12_sounding_b56
        have m0 : inb (nI (6 * i)) 2400 = true := inb_nI (by omega) (by omega)
        have l0 : (nI (6 * i)).toNatClampNeg = 6 * i := nI_clamp (by omega)
        have q0 : gA T 66 (6 * i) = gA S 42 i := by rw [Nat.add_zero, Nat.add_zero] at q0; exact q0
        simp only [e2, if_neg g5, ix6z, nI_1, chk_of m0, chk_of (in6 (show i < 400 by omega) (show 1 < 6 by omega)), rd, l0, cl6 (show i < 400 by omega) (show 1 < 6 by omega), q0, q1, vlet_eq, Int32.add_zero, Nat.reduceAdd]
        by_cases h : a1 < gA S 42 i
        · rw [if_pos h, if_pos (.inl h)]
        · by_cases h2 : gA S 42 i + gA S 43 i ≤ a1
          · rw [if_neg h, if_pos h2, if_pos (.inr h2)]
          · rw [if_neg h, if_neg h2, if_neg (by rintro (r | r); exact h r; exact h2 r)]
      rw [E1, E2]
      exact ih (i + 1) f _ (by omega) (by omega)
  obtain ⟨w, hC, hM⟩ := key n 0 fuel 0 (by omega) (by unfold fuel; omega)
  have hC : f_X1_soundingAt a1 S = some (w, S) := hC
  have hM : f_X12_sounding a1 T = some (w, T) := hM
  unfold f_X11_sounding f_X11_sounding_b0
  rw [bnd_id]
  exact ⟨_, _, _, hC, hM, R⟩
theorem span_key {S T : St} (a1 a2 : Int32) {n : Nat} (hn : n ≤ 400) (e1 : gI S 21 = nI n) (e2 : gI T 34 = nI n) (hc : ∀ i, i < n → ∀ c, c < 6 → gA T 66 (6 * i + c) = gA S (42 + c) i) (hs : ∀ i j, i ≤ j → j < n → gA S 42 i ≤ gA S 42 j) : ∀ d i f c v4 v5, i + d = n → d < f → c ≤ i → (c ≠ 0 → ∀ k, i ≤ k → k < n → v4 ≤ gA S 42 k) → (c = 0 → v4 = -1) → ∃ r0 r1 r2, f_X1_howManyOf_l4 a1 f (nI c, nI i, S) = some (r0, S) ∧ (c = 0 → f_X1_firstBeginOf_l2 a1 f (nI i, S) = some (r1, S)) ∧ (c ≠ 0 → r1 = v4) ∧ f_X1_lastEndOf_l7 a1 f (if c = 0 then 0 else 1, v5, nI i, S) = some (r2, S) ∧ f_X12_span_l35 a1 a2 f (nI c, v4, v5, nI i, T) = some (if a2 = 0 then r0 else if a2 = 1 then r1 else r2, T) := by
  intro d
  induction d with
  | zero =>
    intro i f c v4 v5 hi hf hci h4 h40
    have e : i = n := by omega
    subst e
    obtain ⟨f, rfl⟩ : ∃ f1, f = f1 + 1 := ⟨f - 1, by omega⟩
    have g : nI i ≤ nI i := nI_le (by omega) (by omega)
    refine ⟨nI c, v4, v5, ?_, ?_, fun _ => rfl, ?_, ?_⟩
    · show f_X1_howManyOf_b4 (f_X1_howManyOf_l4 a1 f) a1 (nI c) (nI i) S = _
      unfold f_X1_howManyOf_b4; rw [e1, if_pos g]
    · intro h0
      show f_X1_firstBeginOf_b2 (f_X1_firstBeginOf_l2 a1 f) a1 (nI i) S = _
      unfold f_X1_firstBeginOf_b2; rw [e1, if_pos g, h40 h0]
    · show f_X1_lastEndOf_b7 (f_X1_lastEndOf_l7 a1 f) a1 _ v5 (nI i) S = _
      unfold f_X1_lastEndOf_b7; rw [e1, if_pos g]
    · show f_X12_span_b35 (f_X12_span_l35 a1 a2 f) a1 a2 (nI c) v4 v5 (nI i) T = _
      unfold f_X12_span_b35 f_X12_span_b170; rw [e2, if_pos g]
      split
      · rfl
      · split <;> rfl
  | succ d ih =>
    intro i f c v4 v5 hi hf hci h4 h40
    obtain ⟨f, rfl⟩ : ∃ f1, f = f1 + 1 := ⟨f - 1, by omega⟩
    have g1 : inb (nI i) 400 = true := inb_nI (by omega) (by omega)
    have g2 : (nI i).toNatClampNeg = i := nI_clamp (by omega)
    have g5 : ¬ nI n ≤ nI i := nI_ge (by omega) (by omega)
    have h3 := hc i (by omega)
    have q0 : gA T 66 (6 * i) = gA S 42 i := by have := h3 0 (by omega); rw [Nat.add_zero, Nat.add_zero] at this; exact this
    have q1 := h3 1 (by omega)
    have q4 := h3 4 (by omega)
    have s0 : f_X1_howManyOf_l4 a1 (f + 1) (nI c, nI i, S) = f_X1_howManyOf_b4 (f_X1_howManyOf_l4 a1 f) a1 (nI c) (nI i) S := rfl
    have s1 : f_X1_firstBeginOf_l2 a1 (f + 1) (nI i, S) = f_X1_firstBeginOf_b2 (f_X1_firstBeginOf_l2 a1 f) a1 (nI i) S := rfl
    have s2 : ∀ z, f_X1_lastEndOf_l7 a1 (f + 1) (z, v5, nI i, S) = f_X1_lastEndOf_b7 (f_X1_lastEndOf_l7 a1 f) a1 z v5 (nI i) S := fun _ => rfl
    have s3 : f_X12_span_l35 a1 a2 (f + 1) (nI c, v4, v5, nI i, T) = f_X12_span_b35 (f_X12_span_l35 a1 a2 f) a1 a2 (nI c) v4 v5 (nI i) T := rfl
    rw [s0, s1, s2, s3]
    unfold f_X1_howManyOf_b4 f_X1_howManyOf_b27 f_X1_firstBeginOf_b2 f_X1_lastEndOf_b7 f_X1_lastEndOf_b43 f_X1_lastEndOf_b52 f_X1_endOf f_X1_endOf_b0 f_X12_span_b35 f_X12_span_b104 f_X12_span_b119 f_X12_span_b132 f_X12_span_b139 f_X12_span_b144
    have m4 := in6 (show i < 400 by omega) (show 4 < 6 by omega)
    have m1 := in6 (show i < 400 by omega) (show 1 < 6 by omega)
    have m0 : inb (nI (6 * i)) 2400 = true := inb_nI (by omega) (by omega)
    have l4 := cl6 (show i < 400 by omega) (show 4 < 6 by omega)
    have l1 := cl6 (show i < 400 by omega) (show 1 < 6 by omega)
    have l0 : (nI (6 * i)).toNatClampNeg = 6 * i := nI_clamp (by omega)
    simp only [e1, e2, if_neg g5, chk_of g1, rd, g2, nI_1, ix6z, nI_p4, chk_of m4, chk_of m1, chk_of m0, l4, l1, l0, q4, q1, q0, vlet_eq, bnd_mk, Nat.reduceAdd]
    by_cases hm : gA S 46 i = a1
    · simp only [if_pos hm]
      by_cases h0 : c = 0
      · subst h0
        obtain ⟨r0, r1, r2, t0, t1, t2, t3, t4⟩ := ih (i + 1) f 1 (gA S 42 i) (gA S 42 i + gA S 43 i) (by omega) (by omega) (by omega) (fun _ k h1 h2 => hs i k (by omega) h2) (fun h => by omega)
        have o0 : nI 0 = 0 := rfl
        simp only [if_pos o0, reduceIte, Nat.zero_add] at t3 ⊢
        refine ⟨r0, r1, r2, t0, fun _ => ?_, fun h => absurd rfl h, t3, t4⟩
        rw [t2 (by omega)]
      · obtain ⟨r0, r1, r2, t0, t1, t2, t3, t4⟩ := ih (i + 1) f (c + 1) v4 (if gA S 42 i + gA S 43 i ≤ v5 then v5 else gA S 42 i + gA S 43 i) (by omega) (by omega) (by omega) (fun _ k h1 h2 => h4 h0 k (by omega) h2) (fun h => by omega)
        have o0 : ¬ nI c = 0 := nI_ne0 (by omega) (by omega)
        have o1 : ¬ (1 : Int32) = 0 := by decide
        have o2 : ¬ c + 1 = 0 := by omega
        have o3 : v4 ≤ gA S 42 i := h4 h0 i (by omega) (by omega)
        simp only [if_neg h0, if_neg o0, if_neg o1, if_neg o2, if_pos o3] at t3 ⊢
        refine ⟨r0, r1, r2, t0, fun h => absurd h h0, fun _ => t2 (by omega), ?_, ?_⟩
        · by_cases h5 : gA S 42 i + gA S 43 i ≤ v5
          · rw [if_pos h5] at t3 ⊢; exact t3
          · rw [if_neg h5] at t3 ⊢; exact t3
        · by_cases h5 : gA S 42 i + gA S 43 i ≤ v5
          · rw [if_pos h5] at t4 ⊢; exact t4
          · rw [if_neg h5] at t4 ⊢; exact t4
    · simp only [if_neg hm]
      exact ih (i + 1) f c v4 v5 (by omega) (by omega) (by omega) (fun h k h1 h2 => h4 h k (by omega) h2) h40
theorem op_span (a1 a2 : Int32) : Op (f_X11_span a1 a2) (f_X12_span a1 a2) := by
  intro S T R
  have R0 := R
  obtain ⟨⟨m, hm, d1, d2, hk⟩, r2, r3, r4, r5, r6, ⟨n, hn, e1, e2, hc, hs⟩, r8, r9⟩ := R
  unfold f_X11_span f_X11_span_b0 f_X12_span f_X12_span_b0 f_X12_span_b20
  simp only [has4_eq, isNote_eq, bnd_mk, ite01, in_w a2 0 2 (lo := 0) (hi := 2) (by decide) (by decide), d1, d2, bnd_id]
  by_cases h1 : 0 ≤ a1 ∧ a1 ≤ nI m - 1
  case neg => simp only [if_neg h1]; exact ⟨_, _, _, rfl, rfl, R0⟩
  obtain ⟨r0, r1, r2, t0, t1, t2, t3, t4⟩ := span_key a1 a2 hn e1 e2 (fun i hi => (hc i hi).1) hs n 0 fuel 0 (-1) (-1) (by omega) (by unfold fuel; omega) (by omega) (fun h => absurd rfl h) (fun _ => rfl)
  have t0 : f_X1_howManyOf a1 S = some (r0, S) := t0
  have t1 : f_X1_firstBeginOf a1 S = some (r1, S) := t1 rfl
  have t3 : f_X1_lastEndOf a1 S = some (r2, S) := t3
  have t4 : f_X12_span_l35 a1 a2 fuel (0, -1, -1, 0, T) = some (if a2 = 0 then r0 else if a2 = 1 then r1 else r2, T) := t4
  simp only [if_pos h1, t0, t1, t3, t4]
  by_cases h2 : 0 ≤ a2 ∧ a2 ≤ 2
  · simp only [if_pos h2]
    obtain ⟨c, hc6, rfl⟩ := (upto (n := 2) rfl (by omega)).mp h2
    by_cases c0 : nI c = 0
    · simp only [if_pos c0]; exact ⟨_, _, _, rfl, rfl, R0⟩
    · by_cases c1 : nI c = 1
      · simp only [if_neg c0, if_pos c1]; exact ⟨_, _, _, rfl, rfl, R0⟩
      · have c2 : c = 2 := by
          have : c ≠ 0 := fun e => c0 (by rw [e]; rfl)
          have : c ≠ 1 := fun e => c1 (by rw [e]; rfl)
          omega
        subst c2
        simp only [if_neg c0, if_neg c1, if_pos (show nI 2 = 2 from rfl)]; exact ⟨_, _, _, rfl, rfl, R0⟩
  · have c0 : ¬ a2 = 0 := fun e => h2 (by subst e; decide)
    have c1 : ¬ a2 = 1 := fun e => h2 (by subst e; decide)
    have c2 : ¬ a2 = 2 := fun e => h2 (by subst e; decide)
    simp only [if_neg h2, if_neg c0, if_neg c1, if_neg c2]; exact ⟨_, _, _, rfl, rfl, R0⟩
