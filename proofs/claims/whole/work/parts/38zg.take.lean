/-! ===== perform: the class takes its parts in order ===== -/
def Wt : List Nat × List Nat × List Nat × Bool := ([], [42, 43, 44, 45, 46, 47, 48], [], false)
theorem copy_C {S : St} {i a : Nat} (hi : i < 400) (ha : a < 400) (rec10 : Int32 × St → Option (Unit × St)) : ∀ d c f S', c + d = 7 → d < f → Fr Wt S S' → (∀ k, k < c → gA S' (42 + k) = upd (gA S (42 + k)) i (gA S (32 + k) a)) → (∀ k, c ≤ k → k < 7 → gA S' (42 + k) = gA S (42 + k)) → ∃ S1, f_X1_takeInOrder_l28 rec10 (nI i) (nI a) f (nI c, S') = rec10 (nI (i + 1), S1) ∧ Fr Wt S S1 ∧ ∀ k, k < 7 → gA S1 (42 + k) = upd (gA S (42 + k)) i (gA S (32 + k) a) := by
  intro d
  induction d with
  | zero =>
    intro c f S' hc hf F h1 h2
    have e : c = 7 := by omega
    subst e
    obtain ⟨f, rfl⟩ : ∃ f1, f = f1 + 1 := ⟨f - 1, by omega⟩
    refine ⟨S', ?_, F, h1⟩
    show f_X1_takeInOrder_b28 rec10 (f_X1_takeInOrder_l28 rec10 (nI i) (nI a) f) (nI i) (nI a) (nI 7) S' = _
    unfold f_X1_takeInOrder_b28
    rw [if_pos (show (7 : Int32) ≤ nI 7 by decide), nI_1]
  | succ d ih =>
    intro c f S' hc hf F h1 h2
    obtain ⟨f, rfl⟩ : ∃ f1, f = f1 + 1 := ⟨f - 1, by omega⟩
    have g7 : inb (nI c) 7 = true := inb_nI (by omega) (by omega)
    have c7 : (nI c).toNatClampNeg = c := nI_clamp (by omega)
    have gi : inb (nI i) 400 = true := inb_nI hi (by omega)
    have ga : inb (nI a) 400 = true := inb_nI ha (by omega)
    have ci : (nI i).toNatClampNeg = i := nI_clamp (by omega)
    have ca : (nI a).toNatClampNeg = a := nI_clamp (by omega)
    have r32 : gA S' (32 + c) = gA S (32 + c) := F.2.1 _ (all_not (l := Wt.2.1) (p := fun k => decide (42 ≤ k)) rfl (decide_eq_false (by omega)))
    have F2 : Fr Wt S' (wr S' (42 + c) (nI i) (gA S (32 + c) a)) := by
      have := Fr.stog (w := Wt) (b := 42) (n := 7) (S := S') (j := nI c) (i := nI i) (v := gA S (32 + c) a) rfl (by rw [c7]; omega) rfl
      rw [c7] at this
      exact this
    obtain ⟨S1, x1, x2, x3⟩ := ih (c + 1) f (wr S' (42 + c) (nI i) (gA S (32 + c) a)) (by omega) (by omega) (F.trans F2) (fun k hk => by
      rw [gA_wr]
      by_cases h : k = c
      · subst h; rw [if_pos rfl, h2 k (Nat.le_refl k) (by omega), ci]
      · rw [if_neg (by omega)]; exact h1 k (by omega)) (fun k hk hk2 => by
      rw [gA_wr, if_neg (by omega)]; exact h2 k (by omega) hk2)
    refine ⟨S1, ?_, x2, x3⟩
    show f_X1_takeInOrder_b28 rec10 (f_X1_takeInOrder_l28 rec10 (nI i) (nI a) f) (nI i) (nI a) (nI c) S' = _
    unfold f_X1_takeInOrder_b28
    rw [if_neg (show ¬ (7 : Int32) ≤ nI c from nI_ge (b := 7) (by omega) (by omega)), chk_of g7, chk_of g7, chk_of ga, chk_of gi, vlet_eq, nI_1, c7]
    unfold rd
    rw [ca, r32]
    exact x1
theorem take_loop {S : St} {p : Nat} (hp : p ≤ 400) (hr : ROrder S) (e21 : gI S 21 = nI p) (π : Nat → Nat) (hπ : ∀ i, i < p → π i < p) (hpart : ∀ i, i < p → ∀ S', Fr Wt S S' → f_X5_partAt (nI i) S' = some (nI (π i), S')) : ∀ d i f S', i + d = p → d < f → Fr Wt S S' → (∀ j, j < i → ∀ k, k < 7 → gA S' (42 + k) j = gA S (32 + k) (π j)) → ∃ S1, f_X1_takeInOrder_l10 f (nI i, S') = some ((), S1) ∧ Fr Wt S S1 ∧ ∀ j, j < p → ∀ k, k < 7 → gA S1 (42 + k) j = gA S (32 + k) (π j) := by
  intro d
  induction d with
  | zero =>
    intro i f S' hi hf F h1
    have e : i = p := by omega
    subst e
    obtain ⟨f, rfl⟩ : ∃ f1, f = f1 + 1 := ⟨f - 1, by omega⟩
    refine ⟨S', ?_, F, h1⟩
    show f_X1_takeInOrder_b10 (f_X1_takeInOrder_l10 f) (nI i) S' = _
    unfold f_X1_takeInOrder_b10
    rw [(F.1 21 rfl).trans e21, if_pos (nI_le (Nat.le_refl _) (by omega))]
  | succ d ih =>
    intro i f S' hi hf F h1
    obtain ⟨f, rfl⟩ : ∃ f1, f = f1 + 1 := ⟨f - 1, by omega⟩
    have hπi := hπ i (by omega)
    obtain ⟨S2, x1, x2, x3⟩ := copy_C (S := S') (i := i) (a := π i) (by omega) (by omega) (f_X1_takeInOrder_l10 f) 7 0 fuel S' (by omega) (fuel_gt (by omega)) Fr.rf (fun k hk => absurd hk (Nat.not_lt_zero k)) (fun k _ _ => rfl)
    obtain ⟨S1, y1, y2, y3⟩ := ih (i + 1) f S2 (by omega) (by omega) (F.trans x2) (fun j hj k hk => by
      rw [x3 k hk]
      have r32 : gA S' (32 + k) = gA S (32 + k) := F.2.1 _ (all_not (l := Wt.2.1) (p := fun k => decide (42 ≤ k)) rfl (decide_eq_false (by omega)))
      by_cases h : j = i
      · subst h; rw [upd_self, r32]
      · rw [upd_ne h]; exact h1 j (by omega) k hk)
    refine ⟨S1, ?_, y2, y3⟩
    show f_X1_takeInOrder_b10 (f_X1_takeInOrder_l10 f) (nI i) S' = _
    unfold f_X1_takeInOrder_b10
    rw [(F.1 21 rfl).trans e21, if_neg (nI_ge (show i < p by omega) (by omega)), hpart i (by omega) S' F, bnd_mk]
    have x1 : f_X1_takeInOrder_l28 (f_X1_takeInOrder_l10 f) (nI i) (nI (π i)) fuel (0, S') = _ := x1
    rw [x1]
    exact y1
/-! each event ends where the next one of its voice and pitch begins -/
theorem rep_loop {S : St} {p : Nat} (hp : p ≤ 400) (e21 : gI S 21 = nI p) (L : Nat → Int32) (hs : ∀ i j, i ≤ j → j < p → (gA S 42 i).toInt ≤ (gA S 42 j).toInt) (hx : ∀ i, i < p → -1601 ≤ (gA S 42 i).toInt ∧ (gA S 42 i).toInt ≤ 21600) (hl : ∀ i, i < p → 1 ≤ (L i).toInt ∧ (L i).toInt ≤ 23201) {i : Nat} (hi : i < p) (hL : gA S 43 i = L i) {v : Int32} (hv : v.toInt = (gA S 42 i).toInt + (L i).toInt) : ∀ d o f, o + d = p → d < f → i < o → (∀ k, k < o → gA S 48 i = gA S 48 k → gA S 44 i = gA S 44 k → (gA S 42 i).toInt < (gA S 42 k).toInt → False) → ∃ S1 r e, f_X1_endAtRepeat_l10 (nI i) v f (nI o, S) = some ((), S1) ∧ Fr ([], [43], [], false) S S1 ∧ gA S1 43 = upd (gA S 43) i r ∧ r.toInt = e - (gA S 42 i).toInt ∧ CutS (gA S 42) L (gA S 48) (gA S 44) p i e := by
  have gi : inb (nI i) 400 = true := inb_nI (by omega) (by omega)
  have ci : (nI i).toNatClampNeg = i := nI_clamp (by omega)
  obtain ⟨l1, l2⟩ := hl i hi
  obtain ⟨x1, x2⟩ := hx i hi
  have same : upd (gA S 43) i (L i) = gA S 43 := by
    funext j
    by_cases h : j = i
    · subst h; exact upd_self.trans hL.symm
    · exact upd_ne h
  intro d
  induction d with
  | zero =>
    intro o f ho hf hio hno
    have e : o = p := by omega
    subst e
    obtain ⟨f, rfl⟩ : ∃ f1, f = f1 + 1 := ⟨f - 1, by omega⟩
    refine ⟨S, L i, v.toInt, ?_, Fr.rf, same.symm, by omega, ⟨by omega, by omega⟩, fun b hb q1 q2 q3 => absurd q3 (fun h => hno b hb q1 q2 h), Or.inl hv⟩
    show f_X1_endAtRepeat_b10 (f_X1_endAtRepeat_l10 (nI i) v f) (nI i) v (nI o) S = _
    unfold f_X1_endAtRepeat_b10 f_X1_endAtRepeat_b71
    rw [e21, if_pos (nI_le (Nat.le_refl _) (by omega))]
  | succ d ih =>
    intro o f ho hf hio hno
    obtain ⟨f, rfl⟩ : ∃ f1, f = f1 + 1 := ⟨f - 1, by omega⟩
    have go : inb (nI o) 400 = true := inb_nI (by omega) (by omega)
    have co : (nI o).toNatClampNeg = o := nI_clamp (by omega)
    have i0 : isB 0 = true := rfl
    have i1 : isB 1 = true := rfl
    show ∃ S1 r e, f_X1_endAtRepeat_b10 (f_X1_endAtRepeat_l10 (nI i) v f) (nI i) v (nI o) S = some ((), S1) ∧ _
    unfold f_X1_endAtRepeat_b10 f_X1_endAtRepeat_b71
    rw [e21, if_neg (nI_ge (show o < p by omega) (by omega)), chk_of go]
    have erd : rd S 42 (nI o) = gA S 42 o := by unfold rd; rw [co]
    rw [erd]
    by_cases h1 : v ≤ gA S 42 o
    · rw [if_pos h1]
      have h1 := le_int.mp h1
      refine ⟨S, L i, v.toInt, rfl, Fr.rf, same.symm, by omega, ⟨by omega, by omega⟩, fun b hb q1 q2 q3 => ?_, Or.inl hv⟩
      by_cases hbo : b < o
      · exact absurd q3 (fun h => hno b hbo q1 q2 h)
      · have := hs o b (by omega) hb
        omega
    · rw [if_neg h1]
      have h1 : ¬ v.toInt ≤ (gA S 42 o).toInt := fun q => h1 (le_int.mpr q)
      have erep : f_X1_repeats (nI o) (nI i) S = some (if gA S 48 o = gA S 48 i ∧ gA S 44 o = gA S 44 i ∧ gA S 42 i < gA S 42 o then 1 else 0, S) := by
        unfold f_X1_repeats f_X1_repeats_b0 f_X1_repeats_b44 f_X1_repeats_b45 f_X1_repeats_b73 f_X1_repeats_b74
        simp only [chk_of go, chk_of gi, rd, co, ci, chk_of i0, chk_of i1, reduceIte, if_neg (show ¬ (1 : Int32) = 0 by decide)]
        by_cases c1 : gA S 48 o = gA S 48 i
        · by_cases c2 : gA S 44 o = gA S 44 i
          · by_cases c3 : gA S 42 o ≤ gA S 42 i
            · rw [if_pos c1, if_pos c2, if_pos c3, if_neg (fun q => Int32.not_le.mpr q.2.2 c3)]
            · rw [if_pos c1, if_pos c2, if_neg c3, if_pos ⟨c1, c2, Int32.not_le.mp c3⟩]
          · rw [if_pos c1, if_neg c2, if_neg (fun q => c2 q.2.1)]
        · rw [if_neg c1, if_neg (fun q => c1 q.1)]
      rw [erep, bnd_mk, ite01]
      by_cases hq : gA S 48 o = gA S 48 i ∧ gA S 44 o = gA S 44 i ∧ gA S 42 i < gA S 42 o
      · rw [if_pos hq, chk_of go, chk_of gi, chk_of gi, vlet_eq]
        have q3 := lt_int.mp hq.2.2
        obtain ⟨y1, y2⟩ := hx o (by omega)
        refine ⟨_, gA S 42 o - gA S 42 i, (gA S 42 o).toInt, rfl, Fr.sto rfl rfl, ?_, subI (by omega) (by omega), ⟨q3, by omega⟩, fun b hb k1 k2 k3 => ?_, Or.inr ⟨o, by omega, hq.1.symm, hq.2.1.symm, rfl⟩⟩
        · rw [gA_wr, if_pos rfl, ci]
          unfold rd
          rw [co, ci]
        · by_cases hbo : b < o
          · exact absurd k3 (fun h => hno b hbo k1 k2 h)
          · exact hs o b (by omega) hb
      · rw [if_neg hq, nI_1]
        refine ih (o + 1) f (by omega) (by omega) (by omega) (fun k hk k1 k2 k3 => ?_)
        by_cases hko : k = o
        · subst hko; exact hq ⟨k1.symm, k2.symm, lt_int.mpr k3⟩
        · exact hno k (by omega) k1 k2 k3
theorem reps_loop {S : St} {p : Nat} (hp : p ≤ 400) (e21 : gI S 21 = nI p) (hs : ∀ i j, i ≤ j → j < p → (gA S 42 i).toInt ≤ (gA S 42 j).toInt) (hx : ∀ i, i < p → -1601 ≤ (gA S 42 i).toInt ∧ (gA S 42 i).toInt ≤ 21600) (hl : ∀ i, i < p → 1 ≤ (gA S 43 i).toInt ∧ (gA S 43 i).toInt ≤ 23201) : ∀ d i f S', i + d = p → d < f → Fr ([], [43], [], false) S S' → (∀ k, i ≤ k → k < p → gA S' 43 k = gA S 43 k) → (∀ k, k < i → ∃ e, (gA S' 43 k).toInt = e - (gA S 42 k).toInt ∧ CutS (gA S 42) (gA S 43) (gA S 48) (gA S 44) p k e) → ∃ S1, f_X1_endAtRepeats_l2 f (nI i, S') = some ((), S1) ∧ Fr ([], [43], [], false) S S1 ∧ ∀ k, k < p → ∃ e, (gA S1 43 k).toInt = e - (gA S 42 k).toInt ∧ CutS (gA S 42) (gA S 43) (gA S 48) (gA S 44) p k e := by
  intro d
  induction d with
  | zero =>
    intro i f S' hi hf F h1 h2
    have e : i = p := by omega
    subst e
    obtain ⟨f, rfl⟩ : ∃ f1, f = f1 + 1 := ⟨f - 1, by omega⟩
    refine ⟨S', ?_, F, h2⟩
    show f_X1_endAtRepeats_b2 (f_X1_endAtRepeats_l2 f) (nI i) S' = _
    unfold f_X1_endAtRepeats_b2
    rw [(F.1 21 rfl).trans e21, if_pos (nI_le (Nat.le_refl _) (by omega))]
  | succ d ih =>
    intro i f S' hi hf F h1 h2
    obtain ⟨f, rfl⟩ : ∃ f1, f = f1 + 1 := ⟨f - 1, by omega⟩
    have gi : inb (nI i) 400 = true := inb_nI (by omega) (by omega)
    have ci : (nI i).toNatClampNeg = i := nI_clamp (by omega)
    have t21 : gI S' 21 = nI p := (F.1 21 rfl).trans e21
    have t42 : gA S' 42 = gA S 42 := F.2.1 42 rfl
    have t44 : gA S' 44 = gA S 44 := F.2.1 44 rfl
    have t48 : gA S' 48 = gA S 48 := F.2.1 48 rfl
    obtain ⟨x1, x2⟩ := hx i (by omega)
    obtain ⟨l1, l2⟩ := hl i (by omega)
    have hv : (gA S 42 i + gA S 43 i).toInt = (gA S 42 i).toInt + (gA S 43 i).toInt := addI (by omega) (by omega)
    obtain ⟨S2, r, e, y1, y2, y3, y4, y5⟩ := rep_loop (S := S') hp t21 (gA S 43) (by rw [t42]; exact hs) (by rw [t42]; exact hx) hl (show i < p by omega) (h1 i (Nat.le_refl i) (by omega)) (v := gA S 42 i + gA S 43 i) (by rw [t42]; exact hv) (p - (i + 1)) (i + 1) fuel (by omega) (fuel_gt (by omega)) (by omega) (fun k hk _ _ k3 => by
      rw [t42] at k3
      have := hs k i (by omega) (by omega)
      omega)
    rw [t42, t48, t44] at y5
    rw [t42] at y4
    obtain ⟨S1, z1, z2, z3⟩ := ih (i + 1) f S2 (by omega) (by omega) (F.trans y2) (fun k hk hk2 => by
      rw [y3, upd_ne (by omega)]; exact h1 k (by omega) hk2) (fun k hk => by
      rw [y3]
      by_cases h : k = i
      · subst h; rw [upd_self]; exact ⟨e, y4, y5⟩
      · rw [upd_ne h]; exact h2 k (by omega))
    refine ⟨S1, ?_, z2, z3⟩
    show f_X1_endAtRepeats_b2 (f_X1_endAtRepeats_l2 f) (nI i) S' = _
    unfold f_X1_endAtRepeats_b2 f_X1_endAtRepeat f_X1_endAtRepeat_b0 f_X1_endOf f_X1_endOf_b0
    rw [t21, if_neg (nI_ge (show i < p by omega) (by omega)), chk_of gi, chk_of gi, bnd_mk, vlet_eq, nI_1]
    unfold rd
    rw [ci, t42, h1 i (Nat.le_refl i) (by omega), y1, bnd_mk]
    exact z1
