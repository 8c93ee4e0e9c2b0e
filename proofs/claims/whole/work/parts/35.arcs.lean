/-! ===== arcs, plain ===== -/
theorem imin_int (x y : Int32) : (imin x y).toInt = if y.toInt < x.toInt then y.toInt else x.toInt := by
  unfold imin
  by_cases h : y < x
  · rw [if_pos h, if_pos (lt_int.mp h)]
  · rw [if_neg h, if_neg (fun q => h (lt_int.mpr q))]
theorem imax_int (x y : Int32) : (imax x y).toInt = if x.toInt < y.toInt then y.toInt else x.toInt := by
  unfold imax
  by_cases h : x < y
  · rw [if_pos h, if_pos (lt_int.mp h)]
  · rw [if_neg h, if_neg (fun q => h (lt_int.mpr q))]
theorem share_iff {a b x y : Int32} (h1 : a < b) (h2 : x < y) : imin y b ≤ imax x a ↔ (y ≤ a ∨ b ≤ x) := by
  rw [le_int, le_int, le_int, imin_int, imax_int]
  rw [lt_int] at h1 h2
  constructor
  · intro h; split at h <;> split at h <;> omega
  · intro h; split <;> split <;> omega
/-- both look for an arc that shares with it -/
theorem arc_look (a1 a2 a3 : Int32) (S T : St) (n : Nat) (hn : n ≤ 6) (e1 : gI S 4 = nI n) (e2 : gI T 27 = nI n) (hk : ∀ k, k < n → (gA T 57 k = gA S 21 k ∧ gA T 58 k = gA S 22 k ∧ gA T 59 k = gA S 23 k) ∧ 0 ≤ gA S 21 k ∧ gA S 21 k < gA S 22 k ∧ gA S 22 k ≤ 20000 ∧ (-400) ≤ gA S 23 k ∧ gA S 23 k ≤ 400) (h12 : a1 < a2) : ∀ d i f g, i + d = n → d < f → d < g → (f_X0_shareWith_l2 a1 a2 f (nI i, S) = some (0, S) ∧ (f_X12_arc_l37 a1 a2 a3 g (nI i, T) = f_X12_arc_b37 (fun _ => none) a1 a2 a3 (nI n) T) ∧ (∀ k, i ≤ k → k < n → gA S 22 k ≤ a1 ∨ a2 ≤ gA S 21 k)) ∨ (f_X0_shareWith_l2 a1 a2 f (nI i, S) = some (1, S) ∧ f_X12_arc_l37 a1 a2 a3 g (nI i, T) = some (-1003, T)) := by
  intro d
  induction d with
  | zero =>
    intro i f g hi hf hg
    have e : i = n := by omega
    subst e
    obtain ⟨f, rfl⟩ : ∃ f1, f = f1 + 1 := ⟨f - 1, by omega⟩
    obtain ⟨g, rfl⟩ : ∃ f1, g = f1 + 1 := ⟨g - 1, by omega⟩
    refine .inl ⟨?_, ?_, fun k h h2 => by omega⟩
    · unfold f_X0_shareWith_l2; rw [loopN_succ]; unfold f_X0_shareWith_b2; simp only [e1]
      rw [if_pos (nI_le (by omega) (by omega))]
    · unfold f_X12_arc_l37; rw [loopN_succ]; unfold f_X12_arc_b37; simp only [e2]
      rw [if_pos (nI_le (by omega) (by omega)), if_pos (nI_le (by omega) (by omega))]
  | succ d ih =>
    intro i f g hi hf hg
    obtain ⟨f, rfl⟩ : ∃ f1, f = f1 + 1 := ⟨f - 1, by omega⟩
    obtain ⟨g, rfl⟩ : ∃ f1, g = f1 + 1 := ⟨g - 1, by omega⟩
    have g3 : inb (nI i) 6 = true := inb_nI (by omega) (by omega)
    have g4 : (nI i).toNatClampNeg = i := nI_clamp (by omega)
    have g5 : ¬ nI n ≤ nI i := nI_ge (by omega) (by omega)
    obtain ⟨⟨q1, q2, q3⟩, p1, p2, p3, p4, p5⟩ := hk i (by omega)
    have E1 : f_X0_shareWith_l2 a1 a2 (f + 1) (nI i, S) = if gA S 22 i ≤ a1 ∨ a2 ≤ gA S 21 i then f_X0_shareWith_l2 a1 a2 f (nI (i + 1), S) else some (1, S) := by
      unfold f_X0_shareWith_l2; rw [loopN_succ]; unfold f_X0_shareWith_b2
      simp only [e1, if_neg g5, chk_of g3, rd, g4, nI_1]
      by_cases h : gA S 22 i ≤ a1 ∨ a2 ≤ gA S 21 i
      · rw [if_pos h, if_pos ((share_iff h12 p2).mpr h)]
      · rw [if_neg h, if_neg (fun q => h ((share_iff h12 p2).mp q))]
    have E2 : f_X12_arc_l37 a1 a2 a3 (g + 1) (nI i, T) = if gA S 22 i ≤ a1 ∨ a2 ≤ gA S 21 i then f_X12_arc_l37 a1 a2 a3 g (nI (i + 1), T) else some (-1003, T) := by
      unfold f_X12_arc_l37; rw [loopN_succ]; unfold f_X12_arc_b37 f_X12_arc_b72
      simp only [e2, if_neg g5, chk_of g3, rd, g4, nI_1, q1, q2]
      by_cases h : gA S 22 i ≤ a1
      · rw [if_pos h, if_pos (.inl h)]
      · rw [if_neg h]
        by_cases h2 : a2 ≤ gA S 21 i
        · rw [if_pos h2, if_pos (.inr h2)]
        · rw [if_neg h2, if_neg (by rintro (r | r); exact h r; exact h2 r)]
    by_cases h : gA S 22 i ≤ a1 ∨ a2 ≤ gA S 21 i
    · rw [E1, E2, if_pos h, if_pos h]
      rcases ih (i + 1) f g (by omega) (by omega) (by omega) with ⟨z1, z2, z3⟩ | z
      · refine .inl ⟨z1, z2, fun k h1 h2 => ?_⟩
        by_cases hik : k = i
        · subst hik; exact h
        · exact z3 k (by omega) h2
      · exact .inr z
    · rw [E1, E2, if_neg h, if_neg h]; exact .inr ⟨rfl, rfl⟩
theorem op_arc (a1 a2 a3 : Int32) : Op (f_X11_arc a1 a2 a3) (f_X12_arc a1 a2 a3) := by
  intro S T R
  have R0 := R
  obtain ⟨r1, r2, r3, ⟨n, hn, e1, e2, hk, hd⟩, r5, r6, r7, r8, r9⟩ := R
  unfold f_X11_arc f_X11_arc_b0 f_X11_arc_b32 f_X12_arc f_X12_arc_b0 f_X12_arc_b30
  simp only [isWithin_eq, isTick_eq, bnd_mk, ite01, in_w a3 (-400) 400 (lo := -400) (hi := 400) (by decide) (by decide)]
  by_cases h1 : (0 ≤ a1 ∧ a1 ≤ 20000) ∧ (0 ≤ a2 ∧ a2 ≤ 20000) ∧ ¬ a2 ≤ a1
  case neg =>
    have hC : (if 0 ≤ a1 ∧ a1 ≤ 20000 then (if 0 ≤ a2 ∧ a2 ≤ 20000 then (if a2 ≤ a1 then some ((-1002 : Int32), S) else (if (-400) ≤ a3 ∧ a3 ≤ 400 then bnd (f_X0_shareWith a1 a2 S) (fun r8 S7 => if r8 = 0 then (bnd (f_X0_add a1 a2 a3 S7) (fun r10 S9 => some (r10, S9))) else (some ((-1003), S7))) else some (-1002, S))) else some (-1002, S)) else some (-1002, S)) = some (-1002, S) := by
      by_cases q1 : 0 ≤ a1 ∧ a1 ≤ 20000
      · by_cases q2 : 0 ≤ a2 ∧ a2 ≤ 20000
        · by_cases q3 : a2 ≤ a1
          · rw [if_pos q1, if_pos q2, if_pos q3]
          · exact absurd ⟨q1, q2, q3⟩ h1
        · rw [if_pos q1, if_neg q2]
      · rw [if_neg q1]
    have hM : (if a1 < 0 then some ((-1002 : Int32), T) else if 20000 < a2 then some (-1002, T) else if a2 ≤ a1 then some (-1002, T) else if (-400) ≤ a3 ∧ a3 ≤ 400 then f_X12_arc_l37 a1 a2 a3 fuel (0, T) else some (-1002, T)) = some (-1002, T) := by
      by_cases q1 : a1 < 0
      · rw [if_pos q1]
      · by_cases q2 : 20000 < a2
        · rw [if_neg q1, if_pos q2]
        · by_cases q3 : a2 ≤ a1
          · rw [if_neg q1, if_neg q2, if_pos q3]
          · refine absurd ⟨⟨Int32.not_lt.mp q1, ?_⟩, ⟨?_, Int32.not_lt.mp q2⟩, q3⟩ h1
            · rw [le_int] at *; rw [lt_int] at q2; omega
            · rw [le_int] at *; rw [lt_int] at q1; have : (0 : Int32).toInt = 0 := rfl; omega
    exact ⟨_, _, _, hC, hM, R0⟩
  obtain ⟨q1, q2, q3⟩ := h1
  have q4 : ¬ a1 < 0 := Int32.not_lt.mpr q1.1
  have q5 : ¬ 20000 < a2 := Int32.not_lt.mpr q2.2
  have h12 : a1 < a2 := Int32.not_le.mp q3
  simp only [if_pos q1, if_pos q2, if_neg q3, if_neg q4, if_neg q5]
  by_cases h3 : (-400) ≤ a3 ∧ a3 ≤ 400
  case neg => simp only [if_neg h3]; exact ⟨_, _, _, rfl, rfl, R0⟩
  simp only [if_pos h3]
  unfold f_X0_shareWith f_X0_shareWith_b0
  rcases arc_look a1 a2 a3 S T n hn e1 e2 hk h12 n 0 fuel fuel (by omega) (by unfold fuel; omega) (by unfold fuel; omega) with ⟨z1, z2, z3⟩ | ⟨z1, z2⟩
  · have z1 : f_X0_shareWith_l2 a1 a2 fuel (0, S) = some (0, S) := z1
    have z2 : f_X12_arc_l37 a1 a2 a3 fuel (0, T) = f_X12_arc_b37 (fun _ => none) a1 a2 a3 (nI n) T := z2
    simp only [z1, z2, bnd_mk, bnd_id, reduceIte]
    unfold f_X0_add f_X0_add_b0 f_X12_arc_b37
    by_cases hq : n = 6
    · subst hq
      simp only [e1, e2]
      exact ⟨_, _, _, rfl, rfl, R0⟩
    · have hlt : n < 6 := by omega
      have g1 : nI n < 6 := nI_lt (b := 6) hlt (by omega)
      have g2 : ¬ nI n = 6 := fun e => hq ((nI_eq (b := 6) (by omega) (by omega)).mp e)
      have g3 : inb (nI n) 6 = true := inb_nI hlt (by omega)
      have g4 : (nI n).toNatClampNeg = n := nI_clamp (by omega)
      have g5 : nI n ≤ nI n := nI_le (by omega) (by omega)
      simp only [e1, e2, if_pos g1, if_neg g2, if_pos g5, vlet_eq, gI_wr, chk_of g3, gI_pI, reduceIte]
      refine ⟨_, _, _, rfl, rfl, r1.c rfl rfl rfl rfl rfl rfl |>.m rfl rfl rfl rfl rfl rfl, r2.c rfl rfl |>.m rfl rfl, r3.c rfl rfl rfl rfl |>.m rfl rfl rfl rfl, ⟨n + 1, hlt, ?_, ?_, ?_, ?_⟩, r5.c rfl rfl |>.m rfl rfl, r6.c rfl rfl rfl rfl rfl rfl |>.m rfl rfl rfl rfl rfl, (REvents.c (S1 := pI (wr (wr (wr S 21 (nI n) a1) 22 (nI n) a2) 23 (nI n) a3) 4 (nI n + 1)) r7 rfl rfl rfl (fun c h => ?_)).m rfl rfl, r8.c (fun _ => rfl), r9⟩
      · simp only [gI_pI, gI_wr, reduceIte]; exact (nI_succ n).symm
      · simp only [gI_pI, gI_wr, reduceIte]; exact (nI_succ n).symm
      · intro k hk1
        simp only [gA_pI, gA_wr, reduceIte, Nat.reduceEqDiff, g4, upd_at]
        by_cases hkn : k = n
        · simp only [if_pos hkn, and_self, true_and]; exact ⟨q1.1, h12, q2.2, h3.1, h3.2⟩
        · simp only [if_neg hkn]; exact hk k (by omega)
      · intro i j hi hj hij
        simp only [gA_pI, gA_wr, reduceIte, Nat.reduceEqDiff, g4, upd_at]
        by_cases hin : i = n
        · simp only [if_pos hin, if_neg (show ¬ j = n by omega)]
          rcases z3 j (by omega) (by omega) with z | z
          · exact .inr z
          · exact .inl z
        · by_cases hjn : j = n
          · simp only [if_neg hin, if_pos hjn]; exact z3 i (by omega) (by omega)
          · simp only [if_neg hin, if_neg hjn]; exact hd i j (by omega) (by omega) hij
      · simp only [gA_wr, gA_pI]
        rw [if_neg (by omega), if_neg (by omega), if_neg (by omega)]
  · have z1 : f_X0_shareWith_l2 a1 a2 fuel (0, S) = some (1, S) := z1
    have z2 : f_X12_arc_l37 a1 a2 a3 fuel (0, T) = some (-1003, T) := z2
    simp only [z1, z2, bnd_mk]
    exact ⟨_, _, _, rfl, rfl, R0⟩
