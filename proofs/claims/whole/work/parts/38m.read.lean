/-! ===== read ===== -/
theorem sort_0 (x : Int32) : sortF x = 0 ↔ kd x = 0 := by
  rw [kd0]
  unfold sortF
  by_cases h : kd x = 2
  · rw [if_pos h]; refine ⟨fun q => absurd q (by decide), fun q => ?_⟩; subst q; exact absurd h (by decide)
  · rw [if_neg h]
    by_cases h3 : kd x = 3
    · rw [if_pos h3]; refine ⟨fun q => absurd q (by decide), fun q => ?_⟩; subst q; exact absurd h3 (by decide)
    · rw [if_neg h3]
      by_cases h4 : x = -1
      · rw [if_pos h4]; exact ⟨fun _ => h4, fun _ => rfl⟩
      · rw [if_neg h4]
        refine ⟨fun q => ?_, fun q => absurd q h4⟩
        split at q <;> exact absurd q (by decide)
def RdInv (n : Nat) (B : Nat → Int32) (S0 S T : St) (n0 m p : Nat) : Prop := PcC S n B p ∧ PcM T n B p ∧ p ≤ n ∧ TpC S n B ∧ TpM T n B ∧ gI S 7 = nI m ∧ gI S 6 = nI n0 ∧ gI T 28 = nI n0 ∧ (∀ k, k < m → (gA T 60 k = gA S 26 k ∧ gA T 61 k = gA S 27 k ∧ gA T 62 k = gA S 28 k ∧ gA T 63 k = gA S 29 k) ∧ RuleOk (gA S 26 k) (gA S 27 k) (gA S 28 k) (gA S 29 k)) ∧ (∀ k, k < n0 → gA S 26 k = gA S0 26 k ∧ gA S 27 k = gA S0 27 k ∧ gA S 28 k = gA S0 28 k ∧ gA S 29 k = gA S0 29 k)
def RdEnd (S0 : St) (n0 : Nat) (o1 o2 : Option (Int32 × St)) : Prop := ∃ S1 T1 m x y, o1 = some (x, S1) ∧ o2 = some (y, T1) ∧ n0 ≤ m ∧ m ≤ 24 ∧ gI S1 6 = nI n0 ∧ gI T1 29 = 0 ∧ (∀ k, k < m → (gA T1 60 k = gA S1 26 k ∧ gA T1 61 k = gA S1 27 k ∧ gA T1 62 k = gA S1 28 k ∧ gA T1 63 k = gA S1 29 k) ∧ RuleOk (gA S1 26 k) (gA S1 27 k) (gA S1 28 k) (gA S1 29 k)) ∧ (∀ k, k < n0 → gA S1 26 k = gA S0 26 k ∧ gA S1 27 k = gA S0 27 k ∧ gA S1 28 k = gA S0 28 k ∧ gA S1 29 k = gA S0 29 k) ∧ ((x = -1 ∧ y = nI m ∧ gI T1 28 = nI m ∧ gI S1 7 = nI m) ∨ (¬ x = -1 ∧ y = (-10) - x ∧ gI T1 28 = nI n0))
theorem read_fin (m : Nat) (T : St) : f_X12_read_b47 (nI m) 1 T = some (nI m, pI (pI T 29 0) 28 (nI m)) := by
  unfold f_X12_read_b47
  rw [vlet_eq, vlet_eq, if_neg (by decide), vlet_eq, gI_pI, if_pos rfl]
theorem read_bad (m q : Nat) (T : St) (h : gI T 31 = nI q) : f_X12_read_b47 (nI m) 0 T = some ((-10) - nI q, pI T 29 0) := by
  unfold f_X12_read_b47
  rw [vlet_eq, vlet_eq, if_pos rfl, h]
theorem read_step {n : Nat} {B : Nat → Int32} (b : BOk n B) (S0 : St) (n0 m c f g p : Nat) (S T : St) (hm : m ≤ 24) (h0 : n0 ≤ m) (hc : c ≤ m) (hI : RdInv n B S0 S T n0 m p) : RdEnd S0 n0 (f_X7_findFault_l16 (f + 1) (nI c, S)) (f_X12_read_l16 (g + 2) (nI m, 1, T)) ∨ (m < 24 ∧ ∃ S1 T1 q, RdInv n B S0 S1 T1 n0 (m + 1) q ∧ f_X7_findFault_l16 (f + 1) (nI c, S) = f_X7_findFault_l16 f (nI (c + 1), S1) ∧ f_X12_read_l16 (g + 2) (nI m, 1, T) = f_X12_read_l16 (g + 1) (nI (m + 1), 1, T1)) := by
  have hn := b.1
  obtain ⟨hP, hPm, hp, hT, hTm, h7, h6, h28, hr, hs⟩ := hI
  have gc : ¬ 24 < nI c := nI_nlt (a := 24) (b := c) (by omega) (by omega)
  have o1 : ¬ (1 : Int32) = 0 := by decide
  have e1 : f_X7_findFault_l16 (f + 1) (nI c, S) = if kd (B p) = 0 then some (-1, S) else bnd (f_X7_takeRule S) (fun r5 S4 => if r5 = 0 then (some (gI S4 8, S4)) else (f_X7_findFault_l16 f (nI (c + 1), S4))) := by
    show f_X7_findFault_b16 (f_X7_findFault_l16 f) (nI c) S = _
    unfold f_X7_findFault_b16
    rw [if_neg gc, hP.2.1, nI_1]
  have e2 : f_X12_read_l16 (g + 2) (nI m, 1, T) = if kd (B p) = 0 then f_X12_read_b47 (nI m) 1 T else bnd (f_X12_takeRule (nI m) T) (fun r8 S7 => if r8 = 0 then (f_X12_read_l16 (g + 1) (nI m, r8, S7)) else (bnd (f_X12_take S7) (fun _u9 S9 => f_X12_read_l16 (g + 1) (nI (m + 1), r8, S9)))) := by
    show f_X12_read_b16 (f_X12_read_l16 (g + 1)) (nI m) 1 T = _
    unfold f_X12_read_b16
    rw [if_neg o1, hPm.2.1, nI_1]
    by_cases q : kd (B p) = 0
    · rw [if_pos q, if_pos ((sort_0 _).mpr q)]
    · rw [if_neg q, if_neg (fun z => q ((sort_0 _).mp z))]
  by_cases c0 : kd (B p) = 0
  · rw [if_pos c0] at e1 e2
    rw [e1, e2, read_fin]
    exact .inl ⟨S, _, m, -1, nI m, rfl, rfl, h0, hm, h6, rfl, hr, hs, .inl ⟨rfl, rfl, rfl, h7⟩⟩
  · rw [if_neg c0] at e1 e2
    rcases rule_both b hp hm hP hT h7 hPm hTm with ⟨S1, T1, q, a1, a2, a3, a4, a5, a6, a7⟩ | ⟨hlt, v, nm, x, r, S1, T1, q, a1, a2, a3, a4, a5, a6, a7, a8, a9, a10, a11, a12, a13, a14⟩
    · rw [a1, bnd_mk, if_pos rfl, a3] at e1
      have e3 : f_X12_read_l16 (g + 1) (nI m, 0, T1) = f_X12_read_b47 (nI m) 0 T1 := by
        show f_X12_read_b16 (f_X12_read_l16 g) (nI m) 0 T1 = _
        unfold f_X12_read_b16
        rw [if_pos rfl]
      rw [a2, bnd_mk, if_pos rfl, e3, read_bad m q T1 a4] at e2
      have F := fr_X7_takeRule S a1
      have G := fr_X12_takeRule (nI m) T a2
      refine .inl ⟨S1, _, n0, nI q, _, e1, e2, Nat.le_refl _, by omega, (F.1 6 rfl).trans h6, rfl, fun k hk => ?_, fun k hk => ?_, .inr ⟨nI_m1 (by omega), rfl, (G.1 28 rfl).trans h28⟩⟩
      · obtain ⟨y1, y2, y3, y4⟩ := a6 k (by omega)
        obtain ⟨z1, z2, z3, z4⟩ := a7 k (by omega)
        have w := hr k (by omega)
        rw [y1, y2, y3, y4]
        exact ⟨⟨z1.trans w.1.1, z2.trans w.1.2.1, z3.trans w.1.2.2.1, z4.trans w.1.2.2.2⟩, w.2⟩
      · obtain ⟨y1, y2, y3, y4⟩ := a6 k (by omega)
        rw [y1, y2, y3, y4]; exact hs k hk
    · obtain ⟨T2, m1, m2, m3, m4, m5⟩ := next_M b (Nat.le_of_lt a3) (by rw [a4]; decide) a5 a6
      rw [a1, bnd_mk, if_neg o1] at e1
      rw [a2, bnd_mk, if_neg o1, m1, bnd_mk] at e2
      refine .inr ⟨hlt, S1, T2, nextF n B q, ⟨a8, m2, nextF_le b (Nat.le_of_lt a3), a9, m3, a10, a11.trans h6, m4.trans (a7.trans h28), fun k hk => ?_, fun k hk => ?_⟩, e1, e2⟩
      · rw [m5, m5, m5, m5]
        by_cases hkm : k = m
        · subst hkm
          obtain ⟨y1, y2, y3, y4⟩ := a12.1
          obtain ⟨z1, z2, z3, z4⟩ := a13.1
          rw [y1, y2, y3, y4]
          exact ⟨⟨z1, z2, z3, z4⟩, a14⟩
        · obtain ⟨y1, y2, y3, y4⟩ := a12.2 k hkm
          obtain ⟨z1, z2, z3, z4⟩ := a13.2 k hkm
          have w := hr k (by omega)
          rw [y1, y2, y3, y4]
          exact ⟨⟨z1.trans w.1.1, z2.trans w.1.2.1, z3.trans w.1.2.2.1, z4.trans w.1.2.2.2⟩, w.2⟩
      · obtain ⟨y1, y2, y3, y4⟩ := a12.2 k (by omega)
        rw [y1, y2, y3, y4]; exact hs k hk
theorem read_loop {n : Nat} {B : Nat → Int32} (b : BOk n B) (S0 : St) (n0 : Nat) : ∀ d m f g S T p c, m + d = 24 → d < f → d + 1 < g → n0 ≤ m → c ≤ m → RdInv n B S0 S T n0 m p → RdEnd S0 n0 (f_X7_findFault_l16 f (nI c, S)) (f_X12_read_l16 g (nI m, 1, T)) := by
  intro d
  induction d with
  | zero =>
    intro m f g S T p c hm hf hg h0 hc hI
    obtain ⟨f, rfl⟩ : ∃ f1, f = f1 + 1 := ⟨f - 1, by omega⟩
    obtain ⟨g, rfl⟩ : ∃ f1, g = f1 + 2 := ⟨g - 2, by omega⟩
    rcases read_step b S0 n0 m c f g p S T (by omega) h0 hc hI with h | ⟨h, _⟩
    · exact h
    · omega
  | succ d ih =>
    intro m f g S T p c hm hf hg h0 hc hI
    obtain ⟨f, rfl⟩ : ∃ f1, f = f1 + 1 := ⟨f - 1, by omega⟩
    obtain ⟨g, rfl⟩ : ∃ f1, g = f1 + 2 := ⟨g - 2, by omega⟩
    rcases read_step b S0 n0 m c f g p S T (by omega) h0 hc hI with h | ⟨h, S1, T1, q, hI1, e1, e2⟩
    · exact h
    · rw [e1, e2]
      exact ih (m + 1) f (g + 1) S1 T1 q (c + 1) (by omega) (by omega) (by omega) (by omega) (by omega) hI1
