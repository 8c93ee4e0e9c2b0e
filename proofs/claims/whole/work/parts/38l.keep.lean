/-! ===== read: what is staged is kept ===== -/
theorem cntF_congr {V N R V1 N1 R1 : Nat → Int32} (v m : Int32) : ∀ n, n ≤ 24 → (∀ k, k < n → V k = V1 k ∧ N k = N1 k ∧ R k = R1 k) → cntF V N R v m n = cntF V1 N1 R1 v m n
  | 0, _, _ => rfl
  | n + 1, hn, h => by
    have ih := cntF_congr v m n (by omega) (fun k hk => h k (by omega))
    obtain ⟨h1, h2, h3⟩ := h n (by omega)
    rw [cntF_succ, cntF_succ, h1, h2, h3, ih]
    have is := cntF_is V1 N1 R1 v m n
    generalize cntF V1 N1 R1 v m n = c at is
    rcases is with q | ⟨k, k1, k2, _⟩
    · simp only [if_pos q]
    · have e : R c.toNatClampNeg = R1 c.toNatClampNeg := by
        rw [k2, nI_clamp (by omega)]; exact (h k (by omega)).2.2
      rw [e]
theorem keep_key (V N R : Nat → Int32) {n1 : Nat} (hn : n1 ≤ 24) (hN : ∀ k, k < n1 → ∃ nm, nm < 13 ∧ N k = nI nm) : ∀ d i f S, i + d = n1 → d < f → gI S 7 = nI n1 → gA S 26 = V → gA S 27 = N → gA S 29 = R → (∀ v m, v < 4 → m < 13 → gA S 30 (v * 13 + m) = cntF V N R (nI v) (nI m) i) → ∃ S1, f_X8_keepStaged_l5 f (nI i, S) = some (nI n1, S1) ∧ gI S1 6 = nI n1 ∧ gA S1 26 = V ∧ gA S1 27 = N ∧ gA S1 28 = gA S 28 ∧ gA S1 29 = R ∧ ∀ v m, v < 4 → m < 13 → gA S1 30 (v * 13 + m) = cntF V N R (nI v) (nI m) n1 := by
  intro d
  induction d with
  | zero =>
    intro i f S hi hf h7 hV hN2 hR ht
    have e : i = n1 := by omega
    subst e
    obtain ⟨f, rfl⟩ : ∃ f1, f = f1 + 1 := ⟨f - 1, by omega⟩
    refine ⟨pI S 6 (nI i), ?_, rfl, hV, hN2, rfl, hR, ht⟩
    show f_X8_keepStaged_b5 (f_X8_keepStaged_l5 f) (nI i) S = _
    unfold f_X8_keepStaged_b5
    rw [h7, if_pos (nI_le (by omega) (by omega)), vlet_eq, gI_pI, if_pos rfl]
  | succ d ih =>
    intro i f S hi hf h7 hV hN2 hR ht
    obtain ⟨f, rfl⟩ : ∃ f1, f = f1 + 1 := ⟨f - 1, by omega⟩
    obtain ⟨nm, hnm, hNm⟩ := hN i (by omega)
    obtain ⟨S2, k1, k2⟩ := cnt_key V N R (k := i) (nm := nm) (by omega) hNm hnm 4 0 fuel S (by omega) (fuel_gt (by decide)) hV hN2 hR (fun v m hv hm => by rw [if_neg (Nat.not_lt_zero v)]; exact ht v m hv hm)
    have e1 : f_X8_letCount (nI i) S = some ((), S2) := k1
    have F := fr_X8_letCount (nI i) S e1
    have E : f_X8_keepStaged_l5 (f + 1) (nI i, S) = f_X8_keepStaged_l5 f (nI (i + 1), S2) := by
      show f_X8_keepStaged_b5 (f_X8_keepStaged_l5 f) (nI i) S = _
      unfold f_X8_keepStaged_b5
      rw [h7, if_neg (nI_ge (by omega) (by omega)), e1, bnd_mk, nI_1]
    rw [E]
    obtain ⟨S1, a1, a2, a3, a4, a5, a6, a7⟩ := ih (i + 1) f S2 (by omega) (by omega) ((F.1 7 rfl).trans h7) ((F.2.1 26 rfl).trans hV) ((F.2.1 27 rfl).trans hN2) ((F.2.1 29 rfl).trans hR) k2
    exact ⟨S1, a1, a2, a3, a4, a5.trans (F.2.1 28 rfl), a6, a7⟩
