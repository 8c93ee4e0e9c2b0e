/-! ===== read, the call ===== -/
theorem tape_of {S T : St} (R : RTape S T) : ∃ n B, BOk n B ∧ TpC S n B ∧ TpM T n B := by
  obtain ⟨n, hn, e1, e2, hk⟩ := R
  refine ⟨n, fun k => if k < n then gA T 64 k else -1, ⟨hn, fun k h => ?_, fun k h => if_neg (by omega)⟩, ⟨e1, fun k h => ?_⟩, ⟨e2, fun k h => (if_pos h).symm⟩⟩
  · show 0 ≤ if k < n then gA T 64 k else -1
    rw [if_pos h, hk k h]
    obtain ⟨j, hj, e⟩ := pk_andE (gA S 24 k) (m := 255) 8 (by decide)
    rw [e]; exact nI_pos' (by omega)
  · show _ = if k < n then gA T 64 k else -1
    rw [if_pos h, hk k h]
theorem read_core {S T : St} (hT : RTape S T) (hR : RRules S T) : ∃ r S1 T1, f_X11_read S = some (r, S1) ∧ f_X12_read T = some (r, T1) ∧ RRules S1 T1 ∧ RTape S1 T1 := by
  obtain ⟨n, B, b, tC, tM⟩ := tape_of hT
  obtain ⟨n0, hn0, e6, e28, hk, ht⟩ := hR
  have hn := b.1
  obtain ⟨S3, k1, k2, k3, k4⟩ := take_C b (Nat.zero_le n) (S := pI (pI S 7 (gI S 6)) 9 0) rfl (tC.c rfl rfl)
  obtain ⟨T3, m1, m2⟩ := take_M b (Nat.zero_le n) (T := pI T 32 0) rfl (tM.m rfl rfl)
  have F := fr_X7_takePiece _ k1
  have G := fr_X12_take _ m1
  have r26 : ∀ k, gA S3 k = gA S k := fun k => F.2.1 k rfl
  have r60 : ∀ k, gA T3 k = gA T k := fun k => G.2.1 k rfl
  have hI : RdInv n B S S3 T3 n0 n0 (skipF B 0 (n - 0)) := by
    have hle := skipF_le B (n - 0) 0
    refine ⟨⟨k2, k3, k4⟩, m2, by omega, tC.c (F.1 5 rfl) (r26 24), tM.m (G.1 29 rfl) (r60 64), (F.1 7 rfl).trans e6, (F.1 6 rfl).trans e6, (G.1 28 rfl).trans e28, fun k h => ?_, fun k h => ?_⟩
    · rw [r60, r60, r60, r60, r26, r26, r26, r26]; exact hk k h
    · rw [r26, r26, r26, r26]; exact ⟨rfl, rfl, rfl, rfl⟩
  obtain ⟨S4, T4, m, x, y, c1, c2, c3, c4, c5, c6, c7, c8, c9⟩ := read_loop b S n0 (24 - n0) n0 fuel fuel S3 T3 _ 0 (by omega) (fuel_gt (by omega)) (fuel_gt (by omega)) (Nat.le_refl _) (Nat.zero_le _) hI
  have eF : f_X7_findFault S = some (x, S4) := by
    unfold f_X7_findFault f_X7_findFault_b0 f_X8_dropStaged f_X8_dropStaged_b0
    rw [vlet_eq, bnd_mk, vlet_eq, k1, bnd_mk]; exact c1
  have eM : f_X12_read T = some (y, T4) := by
    unfold f_X12_read f_X12_read_b0
    rw [vlet_eq, vlet_eq, m1, bnd_mk, e28]; exact c2
  have FF := fr_X7_findFault S eF
  have t30 : gA S4 30 = gA S 30 := FF.2.1 30 rfl
  unfold f_X11_read f_X11_read_b0 f_X11_read_b42 f_X10_clear f_X10_clear_b0
  rw [eF, bnd_mk, vlet_eq, bnd_mk, eM]
  have tab : ∀ v m, v < 4 → m < 13 → gA S4 30 (v * 13 + m) = cntF (gA S4 26) (gA S4 27) (gA S4 29) (nI v) (nI m) n0 := by
    intro v m hv hm
    rw [t30, ht v m hv hm]
    exact cntF_congr _ _ n0 hn0 (fun k h => ⟨(c8 k h).1.symm, (c8 k h).2.1.symm, (c8 k h).2.2.2.symm⟩)
  rcases c9 with ⟨d1, d2, d3, d4⟩ | ⟨d1, d2, d3⟩
  · rw [if_pos d1]
    obtain ⟨S5, f1, f2, f3, f4, f5, f6, f7⟩ := keep_key (gA S4 26) (gA S4 27) (gA S4 29) c4 (fun k h => by
      obtain ⟨j, j1, j2⟩ := (upto (n := 12) rfl (by omega)).mp (c7 k h).2.2.1
      exact ⟨j, by omega, j2⟩) (m - n0) n0 fuel (pI S4 5 0) (by omega) (fuel_gt (by omega)) d4 rfl rfl rfl tab
    have eK : f_X8_keepStaged (pI S4 5 0) = some (nI m, S5) := by
      unfold f_X8_keepStaged f_X8_keepStaged_b0
      rw [vlet_eq, show gI (pI S4 5 0) 6 = nI n0 from c5]; exact f1
    have KF := fr_X8_keepStaged _ eK
    rw [eK, bnd_mk, d2]
    refine ⟨_, _, _, rfl, rfl, ⟨m, c4, f2, d3, fun k h => ?_, fun v mm hv hm => ?_⟩, ⟨0, by omega, KF.1 5 rfl, c6, fun k h => absurd h (Nat.not_lt_zero k)⟩⟩
    · rw [f3, f4, f5, f6]; exact c7 k h
    · rw [f3, f4, f6]; exact f7 v mm hv hm
  · rw [if_neg d1, d2]
    refine ⟨_, _, _, rfl, rfl, ⟨n0, hn0, c5, d3, fun k h => c7 k (by omega), tab⟩, ⟨0, by omega, rfl, c6, fun k h => absurd h (Nat.not_lt_zero k)⟩⟩
theorem op_read : Op f_X11_read f_X12_read := by
  intro S T R
  obtain ⟨r1, r2, r3, r4, r5, r6, r7, r8, r9⟩ := R
  obtain ⟨r, S1, T1, hC, hM, h6, h5⟩ := read_core r5 r6
  have F := fr_X11_read S hC
  have G := fr_X12_read T hM
  refine ⟨r, S1, T1, hC, hM, ?_⟩
  exact ⟨(r1.c (F.1 _ rfl) (F.2.1 _ rfl) (F.2.1 _ rfl) (F.2.1 _ rfl) (F.2.1 _ rfl) (F.2.1 _ rfl)).m (G.1 _ rfl) (G.2.1 _ rfl) (G.2.1 _ rfl) (G.2.1 _ rfl) (G.2.1 _ rfl) (G.2.1 _ rfl), (r2.c (F.1 _ rfl) (F.1 _ rfl)).m (G.1 _ rfl) (G.1 _ rfl), (r3.c (F.1 _ rfl) (F.2.1 _ rfl) (F.2.1 _ rfl) (F.2.1 _ rfl)).m (G.1 _ rfl) (G.2.1 _ rfl) (G.2.1 _ rfl) (G.2.1 _ rfl), (r4.c (F.1 _ rfl) (F.2.1 _ rfl) (F.2.1 _ rfl) (F.2.1 _ rfl)).m (G.1 _ rfl) (G.2.1 _ rfl) (G.2.1 _ rfl) (G.2.1 _ rfl), h5, h6, (r7.c (F.1 _ rfl) (F.1 _ rfl) (F.2.1 _ rfl) (fun c h => F.2.1 _ (all_not (p := fun k => decide (k < 42)) rfl (decide_eq_false (by omega))))).m (G.1 _ rfl) (G.2.1 _ rfl), r8.c (fun k => (F.2.2.2 rfl k).2), (G.2.2.1 _ rfl).trans (r9.trans (F.2.2.1 _ rfl).symm)⟩
