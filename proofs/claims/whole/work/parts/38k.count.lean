/-! ===== read: which rule counts ===== -/
theorem cnt_key (V N R : Nat → Int32) {k nm : Nat} (hk : k < 24) (hN : N k = nI nm) (hnm : nm < 13) : ∀ d j f S, j + d = 4 → d < f → gA S 26 = V → gA S 27 = N → gA S 29 = R → (∀ v m, v < 4 → m < 13 → gA S 30 (v * 13 + m) = if v < j then cntF V N R (nI v) (nI m) (k + 1) else cntF V N R (nI v) (nI m) k) → ∃ S1, f_X8_letCount_l2 (nI k) f (nI j, S) = some ((), S1) ∧ ∀ v m, v < 4 → m < 13 → gA S1 30 (v * 13 + m) = cntF V N R (nI v) (nI m) (k + 1) := by
  intro d
  have g1 : inb (nI k) 24 = true := inb_nI hk (by omega)
  have g2 : (nI k).toNatClampNeg = k := nI_clamp (by omega)
  induction d with
  | zero =>
    intro j f S hj hf _ _ _ ht
    have e : j = 4 := by omega
    subst e
    obtain ⟨f, rfl⟩ : ∃ f1, f = f1 + 1 := ⟨f - 1, by omega⟩
    refine ⟨S, rfl, fun v m hv hm => ?_⟩
    rw [ht v m hv hm, if_pos hv]
  | succ d ih =>
    intro j f S hj hf hV hN2 hR ht
    obtain ⟨f, rfl⟩ : ∃ f1, f = f1 + 1 := ⟨f - 1, by omega⟩
    have g4 : ¬ (4 : Int32) ≤ nI j := nI_ge (b := 4) (by omega) (by omega)
    have e13 : nI j * 13 + nI nm = nI (j * 13 + nm) := by rw [show (13 : Int32) = nI 13 from rfl, pk_mul, nI_add]
    have i1 : inb (nI (j * 13 + nm)) 52 = true := inb_nI (by omega) (by omega)
    have i2 : (nI (j * 13 + nm)).toNatClampNeg = j * 13 + nm := nI_clamp (by omega)
    have cell := ht j nm (by omega) hnm
    rw [if_neg (by omega)] at cell
    have inj : ∀ v m, v < 4 → m < 13 → v * 13 + m = j * 13 + nm → v = j ∧ m = nm := by intro v m h1 h2 h3; omega
    have E : ∃ S2, f_X8_letCount_l2 (nI k) (f + 1) (nI j, S) = f_X8_letCount_l2 (nI k) f (nI (j + 1), S2) ∧ gA S2 26 = V ∧ gA S2 27 = N ∧ gA S2 29 = R ∧ ∀ v m, v < 4 → m < 13 → gA S2 30 (v * 13 + m) = if v < j + 1 then cntF V N R (nI v) (nI m) (k + 1) else cntF V N R (nI v) (nI m) k := by
      have e0 : f_X8_letCount_l2 (nI k) (f + 1) (nI j, S) = f_X8_letCount_b2 (f_X8_letCount_l2 (nI k) f) (nI k) (nI j) S := rfl
      rw [e0]
      unfold f_X8_letCount_b2 f_X8_letCount_b41 f_X8_letCount_b64
      rw [if_neg g4, chk_of g1, vlet_eq, chk_of g1, vlet_eq]
      simp only [rd, g2, hV, hN2, hN, e13, chk_of i1, i2, cell, nI_1]
      -- same table where nothing counts
      have same : (∀ m, m < 13 → cntF V N R (nI j) (nI m) (k + 1) = cntF V N R (nI j) (nI m) k) → ∀ v m, v < 4 → m < 13 → gA S 30 (v * 13 + m) = if v < j + 1 then cntF V N R (nI v) (nI m) (k + 1) else cntF V N R (nI v) (nI m) k := by
        intro h v m hv hm
        rw [ht v m hv hm]
        by_cases q : v < j
        · rw [if_pos q, if_pos (by omega)]
        · rw [if_neg q]
          by_cases q2 : v = j
          · subst q2; rw [if_pos (by omega), h m hm]
          · rw [if_neg (by omega)]
      have other : ∀ m, m < 13 → m ≠ nm → cntF V N R (nI j) (nI m) (k + 1) = cntF V N R (nI j) (nI m) k := by
        intro m hm hne
        rw [cntF_succ, if_neg]
        rintro ⟨z, _⟩
        rw [hN] at z
        exact hne ((nI_eq (by omega) (by omega)).mp z).symm
      have is := cntF_is V N R (nI j) (nI nm) k
      have hit : (V k = -1 ∨ V k = nI j) → ∃ S2, (bnd (f_X8_isOutrankedBy (cntF V N R (nI j) (nI nm) k) (nI k) S) (fun r4 S3 => if r4 = 0 then (f_X8_letCount_l2 (nI k) f (nI (j + 1), S3)) else (f_X8_letCount_l2 (nI k) f (nI (j + 1), wr S3 30 (nI (j * 13 + nm)) (nI k))))) = f_X8_letCount_l2 (nI k) f (nI (j + 1), S2) ∧ gA S2 26 = V ∧ gA S2 27 = N ∧ gA S2 29 = R ∧ ∀ v m, v < 4 → m < 13 → gA S2 30 (v * 13 + m) = if v < j + 1 then cntF V N R (nI v) (nI m) (k + 1) else cntF V N R (nI v) (nI m) k := by
        intro hm
        have cs := cntF_succ V N R (nI j) (nI nm) k
        rw [if_pos ⟨hN, hm⟩] at cs
        have put : cntF V N R (nI j) (nI nm) (k + 1) = nI k → ∀ v m, v < 4 → m < 13 → gA (wr S 30 (nI (j * 13 + nm)) (nI k)) 30 (v * 13 + m) = if v < j + 1 then cntF V N R (nI v) (nI m) (k + 1) else cntF V N R (nI v) (nI m) k := by
          intro hc v m hv hm3
          rw [gA_wr, if_pos rfl, i2, upd_at]
          by_cases q : v * 13 + m = j * 13 + nm
          · obtain ⟨q1, q2⟩ := inj v m hv hm3 q
            subst q1; subst q2
            rw [if_pos q, if_pos (by omega), hc]
          · rw [if_neg q, ht v m hv hm3]
            by_cases q1 : v < j
            · rw [if_pos q1, if_pos (by omega)]
            · rw [if_neg q1]
              by_cases q2 : v = j
              · subst q2; rw [if_pos (by omega), other m hm3 (fun z => q (by rw [z]))]
              · rw [if_neg (by omega)]
        unfold f_X8_isOutrankedBy f_X8_isOutrankedBy_b0 f_X8_isOutrankedBy_b24 f_X8_isOutrankedBy_b29
        have b0 : isB 0 = true := rfl
        have b1 : isB 1 = true := rfl
        have o1 : ¬ (1 : Int32) = 0 := by decide
        rw [chk_of b0, chk_of b1]
        generalize cntF V N R (nI j) (nI nm) k = c at cs is cell
        by_cases c1 : c = -1
        · rw [if_pos c1, bnd_mk, if_neg o1]
          rw [if_pos c1] at cs
          exact ⟨_, rfl, hV, hN2, hR, put cs⟩
        · rw [if_neg c1]
          rw [if_neg c1] at cs
          rcases is with q | ⟨i, i3, i4, _⟩
          · exact absurd q c1
          · have g5 : inb c 24 = true := by rw [i4]; exact inb_nI (by omega) (by omega)
            rw [chk_of g5, chk_of g1, rd, rd, g2, hR]
            by_cases z : R k < R c.toNatClampNeg
            · rw [if_pos z, bnd_mk, if_pos rfl]
              rw [if_pos z] at cs
              refine ⟨S, rfl, hV, hN2, hR, same (fun m hm2 => ?_)⟩
              by_cases q : m = nm
              · subst q
                rw [cs]
                exact (cell.symm.trans (by have := ht j m (by omega) hm2; rw [if_neg (by omega)] at this; exact this))
              · exact other m hm2 q
            · rw [if_neg z, bnd_mk, if_neg o1]
              rw [if_neg z] at cs
              exact ⟨_, rfl, hV, hN2, hR, put cs⟩
      by_cases v1 : V k = -1
      · rw [if_pos v1]; exact hit (.inl v1)
      · rw [if_neg v1]
        by_cases v2 : V k = nI j
        · rw [if_pos v2]; exact hit (.inr v2)
        · rw [if_neg v2]
          refine ⟨S, rfl, hV, hN2, hR, same (fun m hm => ?_)⟩
          rw [cntF_succ, if_neg]
          rintro ⟨_, z | z⟩
          · exact v1 z
          · exact v2 z
    obtain ⟨S2, h1, h2, h3, h4, h5⟩ := E
    rw [h1]
    exact ih (j + 1) f S2 (by omega) (by omega) h2 h3 h4 h5
