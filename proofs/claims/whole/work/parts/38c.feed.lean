/-! ===== feed, plain ===== -/
theorem shr_lo {b : Nat} (s : Nat) (x : BitVec 64) (h : s + b < 64) : (x.sshiftRight s).getLsbD b = x.getLsbD (s + b) := by
  rw [BitVec.getLsbD_sshiftRight]
  simp only [h, if_true, show ¬ 64 ≤ b by omega, decide_false, Bool.not_false, Bool.true_and, if_pos]
theorem byte_bv (x : BitVec 64) (s : Nat) (h : s ≤ 56) : BitVec.signExtend 32 (BitVec.setWidth 8 (BitVec.setWidth 32 (x >>> s))) &&& 255#32 = BitVec.setWidth 32 (x.sshiftRight s &&& 255#64) := by
  apply BitVec.eq_of_getLsbD_eq
  intro i hi
  have m : ∀ j, (255#32).getLsbD j = decide (j < 8) := by
    intro j
    show (BitVec.ofNat 32 (2 ^ 8 - 1)).getLsbD j = _
    rw [BitVec.getLsbD_ofNat, Nat.testBit_two_pow_sub_one]
    by_cases q : j < 8
    · simp only [q, decide_true, Bool.and_true, decide_eq_true_eq]; omega
    · simp only [q, decide_false, Bool.and_false]
  have m2 : ∀ j, (255#64).getLsbD j = decide (j < 8) := by
    intro j
    show (BitVec.ofNat 64 (2 ^ 8 - 1)).getLsbD j = _
    rw [BitVec.getLsbD_ofNat, Nat.testBit_two_pow_sub_one]
    by_cases q : j < 8
    · simp only [q, decide_true, Bool.and_true, decide_eq_true_eq]; omega
    · simp only [q, decide_false, Bool.and_false]
  rw [BitVec.getLsbD_and, m, BitVec.getLsbD_setWidth, BitVec.getLsbD_and, m2]
  by_cases q : i < 8
  · rw [shr_lo s x (by omega), BitVec.getLsbD_signExtend, BitVec.getLsbD_setWidth, BitVec.getLsbD_setWidth, BitVec.getLsbD_ushiftRight]
    simp only [q, hi, show i < 32 by omega, decide_true, Bool.true_and, Bool.and_true, if_true]
  · simp only [q, decide_false, Bool.and_false]
theorem byte_eq (a : Int64) (k : Nat) (hk : k < 8) : (vp_nar .byte (Int8.toInt32 (Int32.toInt8 (Int64.toInt32 (lus a (8 * nI k)))))) &&& 255 = Int64.toInt32 ((a >>> (Int32.toInt64 (8 * nI k) &&& 63)) &&& 255) := by
  apply Int32.toBitVec_inj.mp
  unfold lus
  have hs : k = 0 ∨ k = 1 ∨ k = 2 ∨ k = 3 ∨ k = 4 ∨ k = 5 ∨ k = 6 ∨ k = 7 := by omega
  have e0 : ∀ y : Int8, vp_nar .byte y.toInt32 = y.toInt32 := by
    intro y
    show (y.toInt32.toInt8).toInt32 = y.toInt32
    rw [Int8.toInt8_toInt32]
  rw [e0]
  have hL : ∀ u : UInt64, ((a.toUInt64 >>> u).toInt64.toInt32.toInt8.toInt32 &&& 255).toBitVec = BitVec.signExtend 32 (BitVec.signExtend 8 (BitVec.signExtend 32 (a.toBitVec >>> (u.toBitVec % 64)))) &&& 255#32 := fun u => rfl
  have hR : ∀ u : Int64, ((a >>> u) &&& 255).toInt32.toBitVec = BitVec.signExtend 32 (a.toBitVec.sshiftRight (u.toBitVec.smod 64).toNat &&& 255#64) := fun u => rfl
  have z1 : ∀ x : BitVec 64, x.signExtend 32 = x.setWidth 32 := fun x => BitVec.signExtend_eq_setWidth_of_le x (by omega)
  have z2 : ∀ x : BitVec 32, x.signExtend 8 = x.setWidth 8 := fun x => BitVec.signExtend_eq_setWidth_of_le x (by omega)
  rw [hL, hR, z1, z2, z1]
  rcases hs with rfl | rfl | rfl | rfl | rfl | rfl | rfl | rfl
  · exact byte_bv a.toBitVec 0 (by omega)
  · exact byte_bv a.toBitVec 8 (by omega)
  · exact byte_bv a.toBitVec 16 (by omega)
  · exact byte_bv a.toBitVec 24 (by omega)
  · exact byte_bv a.toBitVec 32 (by omega)
  · exact byte_bv a.toBitVec 40 (by omega)
  · exact byte_bv a.toBitVec 48 (by omega)
  · exact byte_bv a.toBitVec 56 (by omega)
theorem feed_key {a2 : Int64} : ∀ (k m f : Nat) (S T : St), k < f → k ≤ 8 → m + k ≤ 400 → gI S 5 = nI m → gI T 29 = nI m → (∀ j, j < m → gA T 64 j = gA S 24 j &&& 255) → ∃ S1 T1, f_X10_append_l21 a2 f (nI k - 1, S) = some (nI (m + k), S1) ∧ f_X12_feed_l37 a2 f (nI k - 1, T) = some (nI (m + k), T1) ∧ gI S1 5 = nI (m + k) ∧ gI T1 29 = nI (m + k) ∧ (∀ j, j < m + k → gA T1 64 j = gA S1 24 j &&& 255)
  | 0, m, f, S, T, hf, _, _, e1, e2, h => by
    obtain ⟨f, rfl⟩ : ∃ f1, f = f1 + 1 := ⟨f - 1, by omega⟩
    have g : nI 0 - 1 < 0 := by decide
    refine ⟨S, T, ?_, ?_, e1, e2, h⟩
    · show f_X10_append_b21 (f_X10_append_l21 a2 f) a2 (nI 0 - 1) S = _
      unfold f_X10_append_b21; rw [if_pos g, e1]; rfl
    · show f_X12_feed_b37 (f_X12_feed_l37 a2 f) a2 (nI 0 - 1) T = _
      unfold f_X12_feed_b37; rw [if_pos g, e2]; rfl
  | k + 1, m, f, S, T, hf, hk, hm, e1, e2, h => by
    obtain ⟨f, rfl⟩ : ∃ f1, f = f1 + 1 := ⟨f - 1, by omega⟩
    have g1 : ¬ nI k < 0 := nI_pos (by omega)
    have g3 : inb (nI m) 400 = true := inb_nI (by omega) (by omega)
    have g4 : (nI m).toNatClampNeg = m := nI_clamp (by omega)
    have E1 : ∀ x, x = vp_nar .byte (Int8.toInt32 (Int32.toInt8 (Int64.toInt32 (lus a2 (8 * nI k))))) → f_X10_append_l21 a2 (f + 1) (nI (k + 1) - 1, S) = f_X10_append_l21 a2 f (nI k - 1, pI (wr S 24 (nI m) x) 5 (nI (m + 1))) := by
      intro x hx
      show f_X10_append_b21 (f_X10_append_l21 a2 f) a2 (nI (k + 1) - 1) S = _
      unfold f_X10_append_b21
      rw [nI_pred, if_neg g1, e1, chk_of g3, ← hx, vlet_eq, vlet_eq, gI_wr, e1, nI_1, Int32.sub_eq_add_neg]
    have E2 : ∀ y, y = Int64.toInt32 ((a2 >>> (Int32.toInt64 (8 * nI k) &&& 63)) &&& 255) → f_X12_feed_l37 a2 (f + 1) (nI (k + 1) - 1, T) = f_X12_feed_l37 a2 f (nI k - 1, pI (wr T 64 (nI m) y) 29 (nI (m + 1))) := by
      intro y hy
      show f_X12_feed_b37 (f_X12_feed_l37 a2 f) a2 (nI (k + 1) - 1) T = _
      unfold f_X12_feed_b37
      rw [nI_pred, if_neg g1, e2, chk_of g3, ← hy, vlet_eq, vlet_eq, gI_wr, e2, nI_1, Int32.sub_eq_add_neg]
    rw [E1 _ rfl, E2 _ rfl]
    have q := byte_eq a2 k (by omega)
    have ih := feed_key (a2 := a2) k (m + 1) f (pI (wr S 24 (nI m) (vp_nar .byte (Int8.toInt32 (Int32.toInt8 (Int64.toInt32 (lus a2 (8 * nI k))))))) 5 (nI (m + 1))) (pI (wr T 64 (nI m) (Int64.toInt32 ((a2 >>> (Int32.toInt64 (8 * nI k) &&& 63)) &&& 255))) 29 (nI (m + 1))) (by omega) (by omega) (by omega) rfl rfl (fun j hj => by
      simp only [gA_pI, gA_wr, reduceIte, g4, upd_at]
      by_cases hjm : j = m
      · rw [if_pos hjm, if_pos hjm]; exact q.symm
      · rw [if_neg hjm, if_neg hjm]; exact h j (by omega))
    rw [show m + 1 + k = m + (k + 1) by omega] at ih
    exact ih
theorem op_feed (a1 : Int32) (a2 : Int64) : Op (f_X11_feed a1 a2) (f_X12_feed a1 a2) := by
  intro S T R
  have R0 := R
  suffices hh : ∃ r S1 T1, f_X11_feed a1 a2 S = some (r, S1) ∧ f_X12_feed a1 a2 T = some (r, T1) ∧ RTape S1 T1 by
    obtain ⟨r, S1, T1, hC, hM, h⟩ := hh
    obtain ⟨r1, r2, r3, r4, r5, r6, r7, r8, r9⟩ := R
    have F := fr_X11_feed a1 a2 S hC
    have G := fr_X12_feed a1 a2 T hM
    refine ⟨r, S1, T1, hC, hM, ?_⟩
    exact ⟨(r1.c (F.1 _ rfl) (F.2.1 _ rfl) (F.2.1 _ rfl) (F.2.1 _ rfl) (F.2.1 _ rfl) (F.2.1 _ rfl)).m (G.1 _ rfl) (G.2.1 _ rfl) (G.2.1 _ rfl) (G.2.1 _ rfl) (G.2.1 _ rfl) (G.2.1 _ rfl), (r2.c (F.1 _ rfl) (F.1 _ rfl)).m (G.1 _ rfl) (G.1 _ rfl), (r3.c (F.1 _ rfl) (F.2.1 _ rfl) (F.2.1 _ rfl) (F.2.1 _ rfl)).m (G.1 _ rfl) (G.2.1 _ rfl) (G.2.1 _ rfl) (G.2.1 _ rfl), (r4.c (F.1 _ rfl) (F.2.1 _ rfl) (F.2.1 _ rfl) (F.2.1 _ rfl)).m (G.1 _ rfl) (G.2.1 _ rfl) (G.2.1 _ rfl) (G.2.1 _ rfl), h, (r6.c (F.1 _ rfl) (F.2.1 _ rfl) (F.2.1 _ rfl) (F.2.1 _ rfl) (F.2.1 _ rfl) (F.2.1 _ rfl)).m (G.1 _ rfl) (G.2.1 _ rfl) (G.2.1 _ rfl) (G.2.1 _ rfl) (G.2.1 _ rfl), (r7.c (F.1 _ rfl) (F.1 _ rfl) (F.2.1 _ rfl) (fun c h => F.2.1 _ (all_not (p := fun k => decide (k < 42)) rfl (decide_eq_false (by omega))))).m (G.1 _ rfl) (G.2.1 _ rfl), r8.c (fun k => (F.2.2.2 rfl k).2), (G.2.2.1 _ rfl).trans (r9.trans (F.2.2.1 _ rfl).symm)⟩
  obtain ⟨r1, r2, r3, r4, r5, r6, r7, r8, r9⟩ := R
  have r50 := r5
  obtain ⟨m, hm, e1, e2, hk⟩ := r5
  unfold f_X11_feed f_X11_feed_b0 f_X11_feed_b25 f_X12_feed f_X12_feed_b0
  simp only [isWithin_eq, bnd_mk, ite01, in_w a1 1 8 (lo := 1) (hi := 8) (by decide) (by decide), bnd_id]
  by_cases h1 : 1 ≤ a1 ∧ a1 ≤ 8
  case neg => simp only [if_neg h1]; exact ⟨_, _, _, rfl, rfl, r50⟩
  simp only [if_pos h1]
  obtain ⟨k, hk8, rfl⟩ := (upto (n := 8) (m := 8) rfl (by omega)).mp ⟨Int32.le_trans (by decide) h1.1, h1.2⟩
  unfold f_X10_append f_X10_append_b0
  rw [e1, e2, show (400 : Int32) = nI 400 from rfl, pk_sub hm, nI_add]
  simp only [vlet_eq]
  by_cases hq : m + k ≤ 400
  · have c1 : nI k ≤ nI (400 - m) := nI_le (by omega) (by omega)
    have c2 : nI (m + k) ≤ nI 400 := nI_le hq (by omega)
    obtain ⟨S1, T1, hC, hM, f1, f2, f3⟩ := feed_key (a2 := a2) k m fuel S T (by unfold fuel; omega) hk8 hq e1 e2 hk
    simp only [if_pos c1, if_pos c2, hC, hM]
    exact ⟨_, _, _, rfl, rfl, m + k, hq, f1, f2, f3⟩
  · have c1 : ¬ nI k ≤ nI (400 - m) := nI_ge (by omega) (by omega)
    have c2 : ¬ nI (m + k) ≤ nI 400 := nI_ge (by omega) (by omega)
    simp only [if_neg c1, if_neg c2]
    exact ⟨_, _, _, rfl, rfl, r50⟩
