/-! ===== the small calls ===== -/
theorem bnd_id {o : Option (Int32 × St)} : bnd o (fun r S => some (r, S)) = o := by
  cases o with
  | none => rfl
  | some q => rfl
theorem nI_48 : (48 : Int32) = nI 48 := rfl
theorem nI_n1 (n : Nat) : nI n + 1 - 1 = nI n := by rw [← nI_succ, nI_pred]
theorem op_note (a1 a2 a3 a4 a5 : Int32) : Op (f_X11_note a1 a2 a3 a4 a5) (f_X12_note a1 a2 a3 a4 a5) := by
  intro S T R
  unfold f_X11_note f_X11_note_b0 f_X11_note_b29 f_X11_note_b56 f_X12_note f_X12_note_b0 f_X12_note_b64
  simp only [isVoice_eq, isWithin_eq, bnd_mk, ite01, in_w a1 0 3 (lo := 0) (hi := 3) (by decide) (by decide), in_w a2 0 9600 (lo := 0) (hi := 9600) (by decide) (by decide), in_w a3 1 960 (lo := 1) (hi := 960) (by decide) (by decide), in_w a4 12 115 (lo := 12) (hi := 115) (by decide) (by decide), in_w a5 0 127 (lo := 0) (hi := 127) (by decide) (by decide)]
  by_cases h1 : 0 ≤ a1 ∧ a1 ≤ 3
  case neg => simp only [if_neg h1]; exact ⟨_, _, _, rfl, rfl, R⟩
  by_cases h2 : 0 ≤ a2 ∧ a2 ≤ 9600
  case neg => simp only [if_pos h1, if_neg h2]; exact ⟨_, _, _, rfl, rfl, R⟩
  by_cases h3 : 1 ≤ a3 ∧ a3 ≤ 960
  case neg => simp only [if_pos h1, if_pos h2, if_neg h3]; exact ⟨_, _, _, rfl, rfl, R⟩
  by_cases h4 : 12 ≤ a4 ∧ a4 ≤ 115
  case neg => simp only [if_pos h1, if_pos h2, if_pos h3, if_neg h4]; exact ⟨_, _, _, rfl, rfl, R⟩
  by_cases h5 : 0 ≤ a5 ∧ a5 ≤ 127
  case neg => simp only [if_pos h1, if_pos h2, if_pos h3, if_pos h4, if_neg h5]; exact ⟨_, _, _, rfl, rfl, R⟩
  simp only [if_pos h1, if_pos h2, if_pos h3, if_pos h4, if_pos h5, bnd_id]
  unfold f_X4_add f_X4_add_b0
  have R0 := R
  obtain ⟨⟨n, hn, e1, e2, hk⟩, r2, r3, r4, r5, r6, r7, r8, r9⟩ := R
  by_cases hq : n = 48
  · subst hq
    simp only [e1, e2]
    exact ⟨_, _, _, rfl, rfl, R0⟩
  · have hlt : n < 48 := by omega
    have g1 : nI n < 48 := nI_lt (b := 48) hlt (by omega)
    have g2 : ¬ nI n = 48 := fun e => hq ((nI_eq (b := 48) (by omega) (by omega)).mp e)
    have g3 : inb (nI n) 48 = true := inb_nI hlt (by omega)
    have g4 : (nI n).toNatClampNeg = n := nI_clamp (by omega)
    simp only [e1, e2, if_pos g1, if_neg g2, vlet_eq, gI_wr, chk_of g3]
    refine ⟨_, _, _, rfl, rfl, ⟨n + 1, hlt, ?_, ?_, ?_⟩, r2.c rfl rfl |>.m rfl rfl, r3.c rfl rfl rfl rfl |>.m rfl rfl rfl rfl, r4.c rfl rfl rfl rfl |>.m rfl rfl rfl rfl, r5.c rfl rfl |>.m rfl rfl, r6.c rfl rfl rfl rfl rfl rfl |>.m rfl rfl rfl rfl rfl, ?_, r8.c (fun _ => rfl), r9⟩
    · simp only [gI_pI, gI_wr, reduceIte, e1]; exact (nI_succ n).symm
    · simp only [gI_pI, gI_wr, reduceIte, e2]; exact (nI_succ n).symm
    · intro k hk1
      simp only [gA_pI, gA_wr, reduceIte, Nat.reduceEqDiff, g4, upd_at]
      by_cases hkn : k = n
      · simp only [if_pos hkn, and_self, true_and]; exact ⟨h1, h2, h3, h4, h5⟩
      · simp only [if_neg hkn]; exact hk k (by omega)
    · obtain ⟨m, hm, e3, e4, hc, hs⟩ := r7
      refine ⟨m, hm, e3, e4, fun i hi => ⟨fun c h => ?_, ?_⟩, hs⟩
      · have q1 : gA (pI (wr (wr (wr (wr (wr S 13 (nI n) a1) 14 (nI n) a2) 15 (nI n) a3) 16 (nI n) a4) 17 (nI n) a5) 2 (nI n + 1)) (42 + c) = gA S (42 + c) := by
          simp only [gA_pI, gA_wr]
          rw [if_neg (by omega), if_neg (by omega), if_neg (by omega), if_neg (by omega), if_neg (by omega)]
        show gA T 66 (6 * i + c) = _
        rw [q1]; exact (hc i hi).1 c h
      · obtain ⟨j, q1, q2, q3, q4⟩ := (hc i hi).2
        refine ⟨j, ?_, q2, q3, ?_⟩
        · simp only [gI_pI, gI_wr, reduceIte]
          rw [e1] at q1
          have := (nI_ltI (by omega) (by omega)).mp q1
          rw [← nI_succ]; exact nI_lt (by omega) (by omega)
        · refine q4.trans ?_
          rw [e1] at q1
          have := (nI_ltI (by omega) (by omega)).mp q1
          simp only [gA_pI, gA_wr, reduceIte, Nat.reduceEqDiff, g4, upd_at]
          rw [if_neg (by omega)]
theorem op_meter (a1 a2 : Int32) : Op (f_X11_meter a1 a2) (f_X12_meter a1 a2) := by
  intro S T R
  unfold f_X11_meter f_X11_meter_b0 f_X11_meter_b21 f_X12_meter f_X12_meter_b0 f_X12_meter_b24 f_X9_beat f_X9_beat_b0
  simp only [isWithin_eq, bnd_mk, ite01, in_w a1 1 12 (lo := 1) (hi := 12) (by decide) (by decide), in_w a2 1 960 (lo := 1) (hi := 960) (by decide) (by decide), vlet_eq]
  by_cases h1 : 1 ≤ a1 ∧ a1 ≤ 12
  case neg => simp only [if_neg h1]; exact ⟨_, _, _, rfl, rfl, R⟩
  by_cases h2 : 1 ≤ a2 ∧ a2 ≤ 960
  case neg => simp only [if_pos h1, if_neg h2]; exact ⟨_, _, _, rfl, rfl, R⟩
  simp only [if_pos h1, if_pos h2]
  obtain ⟨r1, r2, r3, r4, r5, r6, r7, r8, r9⟩ := R
  exact ⟨_, _, _, rfl, rfl, r1.c rfl rfl rfl rfl rfl rfl |>.m rfl rfl rfl rfl rfl rfl, ⟨rfl, rfl, h1, h2⟩, r3.c rfl rfl rfl rfl |>.m rfl rfl rfl rfl, r4.c rfl rfl rfl rfl |>.m rfl rfl rfl rfl, r5.c rfl rfl |>.m rfl rfl, r6.c rfl rfl rfl rfl rfl rfl |>.m rfl rfl rfl rfl rfl, r7.c rfl rfl rfl (fun _ _ => rfl) |>.m rfl rfl, r8.c (fun _ => rfl), r9⟩
theorem op_count (a1 : Int32) : Op (f_X11_count a1) (f_X12_count a1) := by
  intro S T R
  have R0 := R
  obtain ⟨⟨n1, _, c1, d1, _⟩, r2, ⟨n2, _, c2, d2, _⟩, ⟨n3, _, c3, d3, _⟩, ⟨n4, _, c4, d4, _⟩, ⟨n5, _, c5, d5, _⟩, ⟨n6, _, c6, d6, _⟩, r8, r9⟩ := R
  unfold f_X11_count f_X11_count_b0 f_X12_count f_X12_count_b0 f_X12_count_b74
  simp only [c1, d1, c2, d2, c3, d3, c4, d4, c5, d5, c6, d6]
  by_cases h0 : a1 = 0
  · simp only [if_pos h0]; exact ⟨_, _, _, rfl, rfl, R0⟩
  by_cases h1 : a1 = 1
  · simp only [if_neg h0, if_pos h1]; exact ⟨_, _, _, rfl, rfl, R0⟩
  by_cases h2 : a1 = 2
  · simp only [if_neg h0, if_neg h1, if_pos h2]; exact ⟨_, _, _, rfl, rfl, R0⟩
  by_cases h3 : a1 = 3
  · simp only [if_neg h0, if_neg h1, if_neg h2, if_pos h3]; exact ⟨_, _, _, rfl, rfl, R0⟩
  by_cases h4 : a1 = 4
  · simp only [if_neg h0, if_neg h1, if_neg h2, if_neg h3, if_pos h4]; exact ⟨_, _, _, rfl, rfl, R0⟩
  by_cases h5 : a1 = 5
  · simp only [if_neg h0, if_neg h1, if_neg h2, if_neg h3, if_neg h4, if_pos h5]; exact ⟨_, _, _, rfl, rfl, R0⟩
  · simp only [if_neg h0, if_neg h1, if_neg h2, if_neg h3, if_neg h4, if_neg h5]; exact ⟨_, _, _, rfl, rfl, R0⟩
/-- a number between 0 and one less than a count: which -/
theorem in_cnt {a c : Int32} {n : Nat} (e : c = nI n) (hn : n < 2 ^ 30) : (0 ≤ a ∧ a ≤ c - 1) ↔ ∃ j, j < n ∧ a = nI j := by
  subst e
  have q : (nI n - 1).toInt = (n : Int) - 1 := pk_sub_toInt hn (b := 1) (by omega)
  constructor
  · intro h
    obtain ⟨j, hj, e⟩ := nI_of (Int32.not_lt.mpr h.1)
    refine ⟨j, ?_, e⟩
    have := le_int.mp h.2
    rw [q, e, nI_toInt hj] at this; omega
  · rintro ⟨j, hj, e⟩
    subst e
    exact ⟨nI_pos' (by omega), le_int.mpr (by rw [q, nI_toInt (by omega)]; omega)⟩
theorem op_mark (a1 a2 : Int32) : Op (f_X11_mark a1 a2) (f_X12_mark a1 a2) := by
  intro S T R
  have R0 := R
  obtain ⟨⟨n, hn, e1, e2, hk⟩, r2, r3, r4, r5, r6, r7, r8, r9⟩ := R
  unfold f_X11_mark f_X11_mark_b0 f_X12_mark f_X12_mark_b0 f_X4_changeMarks f_X4_changeMarks_b0
  simp only [isWithin_eq, has4_eq, isNote_eq, bnd_mk, ite01, in_w a2 0 127 (lo := 0) (hi := 127) (by decide) (by decide), vlet_eq, e1, e2, bnd_id]
  by_cases h1 : 0 ≤ a1 ∧ a1 ≤ nI n - 1
  case neg => simp only [if_neg h1]; exact ⟨_, _, _, rfl, rfl, R0⟩
  by_cases h2 : 0 ≤ a2 ∧ a2 ≤ 127
  case neg => simp only [if_pos h1, if_neg h2]; exact ⟨_, _, _, rfl, rfl, R0⟩
  obtain ⟨j, hj, e⟩ := (in_cnt rfl (by omega)).mp h1
  subst e
  have g3 : inb (nI j) 48 = true := inb_nI (by omega) (by omega)
  have g4 : (nI j).toNatClampNeg = j := nI_clamp (by omega)
  simp only [if_pos h1, if_pos h2, chk_of g3, rd, g4, (hk j hj).1.2.2.2.2]
  refine ⟨_, _, _, rfl, rfl, ⟨n, hn, e1, e2, ?_⟩, r2.c rfl rfl |>.m rfl rfl, r3.c rfl rfl rfl rfl |>.m rfl rfl rfl rfl, r4.c rfl rfl rfl rfl |>.m rfl rfl rfl rfl, r5.c rfl rfl |>.m rfl rfl, r6.c rfl rfl rfl rfl rfl rfl |>.m rfl rfl rfl rfl rfl, (REvents.c (S1 := wr S 17 (nI j) a2) r7 rfl rfl rfl (fun c h => ?_)).m rfl rfl, r8.c (fun _ => rfl), r9⟩
  · intro k hk1
    obtain ⟨⟨q1, q2, q3, q4, q5⟩, p1, p2, p3, p4, p5⟩ := hk k hk1
    simp only [gA_wr, reduceIte, Nat.reduceEqDiff, g4, upd_at]
    by_cases hkn : k = j
    · simp only [if_pos hkn, and_true]; exact ⟨⟨q1, q2, q3, q4⟩, p1, p2, p3, p4, h2⟩
    · simp only [if_neg hkn]; exact hk k hk1
  · simp only [gA_wr]; rw [if_neg (by omega)]
