/-! ===== perform: the keys are sorted ===== -/
def Blk (A : Nat → Int64) (w p z : Nat) : Prop := ∀ i j, z ≤ i → i ≤ j → j < z + w → j < p → A i ≤ A j
theorem nI_2 (a : Nat) : (2 : Int32) * nI a = nI (2 * a) := by rw [show (2 : Int32) = nI 2 from rfl, pk_mul]
theorem nI_t2 (a : Nat) : nI a * 2 = nI (2 * a) := by rw [show (2 : Int32) = nI 2 from rfl, pk_mul, Nat.mul_comm]
theorem pass_loop {S : St} (hr : ROrder S) {p w : Nat} (hp : p ≤ 400) (hw : 1 ≤ w) (hw2 : w < p) (A : Nat → Int64) (hA : gL S (gR S 0) = A) (hB : ∀ m, Blk A w p (m * w)) (rec31 : Int32 × St → Option (Unit × St)) : ∀ d m z f F, z = m * (2 * w) → z ≤ 2000 → p ≤ z + d → d < f → (∀ q, cntQ q F (min z p) = cntQ q A (min z p)) → (∀ m1, m1 < m → Blk F (2 * w) p (m1 * (2 * w))) → ∃ F', f_X5_sort_l39 rec31 (nI p) (nI w) f (nI z, pL S (gR S 1) F) = rec31 (nI (2 * w), pR (pR (pL S (gR S 1) F') 1 (gR S 0)) 0 (gR S 1)) ∧ (∀ q, cntQ q F' p = cntQ q A p) ∧ ∀ m1, Blk F' (2 * w) p (m1 * (2 * w)) := by
  intro d
  induction d using Nat.strongRecOn with
  | ind d ih =>
    intro m z f F hz hz2 hd hf hc hm
    obtain ⟨f, rfl⟩ : ∃ f1, f = f1 + 1 := ⟨f - 1, by omega⟩
    by_cases hzp : p ≤ z
    · refine ⟨F, ?_, fun q => ?_, fun m1 => ?_⟩
      · show f_X5_sort_b39 rec31 (f_X5_sort_l39 rec31 (nI p) (nI w) f) (nI p) (nI w) (nI z) (pL S (gR S 1) F) = _
        unfold f_X5_sort_b39
        rw [if_pos (nI_le hzp (by omega)), vlet_eq, vlet_eq, vlet_eq, vlet_eq, nI_t2]
        rfl
      · have := hc q
        rw [Nat.min_eq_right hzp] at this
        exact this
      · by_cases h1 : m1 < m
        · exact hm m1 h1
        · intro i j hi hij hj hjp
          have : m * (2 * w) ≤ m1 * (2 * w) := Nat.mul_le_mul_right _ (by omega)
          omega
    · -- a pair of runs
      have em : imin (nI z + nI w) (nI p) = nI (if p < z + w then p else z + w) := by rw [nI_add, imin_nI (by omega) (by omega)]
      have eh : imin (nI z + 2 * nI w) (nI p) = nI (if p < z + 2 * w then p else z + 2 * w) := by rw [nI_2, nI_add, imin_nI (by omega) (by omega)]
      generalize hmid : (if p < z + w then p else z + w) = mid at em
      generalize hhi : (if p < z + 2 * w then p else z + 2 * w) = hi at eh
      have m1 : z ≤ mid ∧ mid ≤ hi ∧ hi ≤ p ∧ mid ≤ z + w ∧ hi ≤ z + 2 * w ∧ (mid = z + w ∨ hi ≤ mid) ∧ min (z + 2 * w) p = hi := by
        have e : min (z + 2 * w) p = if p < z + 2 * w then p else z + 2 * w := by
          rw [Nat.min_def]
          split <;> split <;> omega
        rw [e, hhi]
        split at hmid <;> split at hhi <;> omega
      obtain ⟨a1, a2, a3, a4, a5, a6, a7⟩ := m1
      have z1 : (2 * m) * w = z := by rw [hz, Nat.mul_comm 2 m, Nat.mul_assoc]
      have z2 : (2 * m + 1) * w = z + w := by rw [Nat.succ_mul (2 * m) w, z1]
      have s1 : SrtR A z mid := fun i j hi hij hj => hB (2 * m) i j (by omega) hij (by omega) (by omega)
      have s2 : SrtR A mid hi := by
        intro i j hi' hij hj
        rcases a6 with h | h
        · exact hB (2 * m + 1) i j (by omega) hij (by omega) (by omega)
        · omega
      obtain ⟨F', e1, k1, k2, k3⟩ := merge_ok hr a1 a2 (by omega) A F hA s1 s2
      have hzm : min z p = z := Nat.min_eq_left (by omega)
      have zz : z + 2 * w = (m + 1) * (2 * w) := by rw [Nat.succ_mul m (2 * w), ← hz]
      obtain ⟨F2, x1, x2, x3⟩ := ih (d - 2 * w) (by omega) (m + 1) (z + 2 * w) f F' zz (by omega) (by omega) (by omega) (fun q => by
        rw [a7]
        have u1 := k2 q
        have u2 := hc q
        rw [hzm] at u2
        omega) (fun m2 hm2 => by
        by_cases hm3 : m2 = m
        · subst hm3
          intro i j hi' hij hj hjp
          exact k3 i j (by omega) hij (by omega)
        · intro i j hi' hij hj hjp
          have q1 : (m2 + 1) * (2 * w) ≤ m * (2 * w) := Nat.mul_le_mul_right _ (by omega)
          rw [Nat.succ_mul m2 (2 * w)] at q1
          rw [k1 i (by omega), k1 j (by omega)]
          exact hm m2 (by omega) i j hi' hij hj hjp)
      refine ⟨F2, ?_, x2, x3⟩
      show f_X5_sort_b39 rec31 (f_X5_sort_l39 rec31 (nI p) (nI w) f) (nI p) (nI w) (nI z) (pL S (gR S 1) F) = _
      unfold f_X5_sort_b39
      rw [if_neg (nI_ge (by omega) (by omega)), em, eh, e1, bnd_mk, vlet_eq, nI_2, nI_add]
      exact x1
theorem gR_sw (S : St) (a b : Nat) : gR (pR (pR S 1 a) 0 b) 0 = b ∧ gR (pR (pR S 1 a) 0 b) 1 = a := ⟨rfl, rfl⟩
theorem sort_loop {p : Nat} (hp : p ≤ 400) (C : (Int64 → Bool) → Nat) : ∀ d w f S, 1 ≤ w → w ≤ 800 → p ≤ w + d → d < f → ROrder S → (∀ m, Blk (gL S (gR S 0)) w p (m * w)) → (∀ q, cntQ q (gL S (gR S 0)) p = C q) → ∃ S1, f_X5_sort_l31 (nI p) f (nI w, S) = some ((), S1) ∧ ROrder S1 ∧ (∀ q, cntQ q (gL S1 (gR S1 0)) p = C q) ∧ SrtR (gL S1 (gR S1 0)) 0 p := by
  intro d
  induction d using Nat.strongRecOn with
  | ind d ih =>
    intro w f S hw hw2 hd hf hr hB hC
    obtain ⟨f, rfl⟩ : ∃ f1, f = f1 + 1 := ⟨f - 1, by omega⟩
    by_cases hwp : p ≤ w
    · refine ⟨S, ?_, hr, hC, fun i j hi hij hj => hB 0 i j (by omega) hij (by omega) hj⟩
      show f_X5_sort_b31 (f_X5_sort_l31 (nI p) f) (nI p) (nI w) S = _
      unfold f_X5_sort_b31
      rw [if_pos (nI_le hwp (by omega))]
    · obtain ⟨iL0, iL1, hne⟩ := isL_of hr
      have eS : pL S (gR S 1) (gL S (gR S 1)) = S := by
        have e : va_up S.2.2.1 (gR S 1) (gL S (gR S 1)) = S.2.2.1 := by
          funext j
          by_cases h : j = gR S 1
          · rw [h]; exact if_pos rfl
          · exact if_neg h
        show (S.1, S.2.1, va_up S.2.2.1 (gR S 1) (gL S (gR S 1)), S.2.2.2) = S
        rw [e]
      obtain ⟨F', x1, x2, x3⟩ := pass_loop hr hp hw (by omega) (gL S (gR S 0)) rfl hB (f_X5_sort_l31 (nI p) f) p 0 0 fuel (gL S (gR S 1)) (by omega) (by omega) (by omega) (fuel_gt (by omega)) (fun q => by rw [Nat.zero_min]; rfl) (fun m1 h => absurd h (Nat.not_lt_zero _))
      rw [eS] at x1
      have g0 : gR (pR (pR (pL S (gR S 1) F') 1 (gR S 0)) 0 (gR S 1)) 0 = gR S 1 := rfl
      have g1 : gR (pR (pR (pL S (gR S 1) F') 1 (gR S 0)) 0 (gR S 1)) 1 = gR S 0 := rfl
      have gF : gL (pR (pR (pL S (gR S 1) F') 1 (gR S 0)) 0 (gR S 1)) (gR S 1) = F' := (gL_pL S _ _ F').trans (if_pos rfl)
      obtain ⟨S1, y1, y2⟩ := ih (d - w) (by omega) (2 * w) f (pR (pR (pL S (gR S 1) F') 1 (gR S 0)) 0 (gR S 1)) (by omega) (by omega) (by omega) (by omega) (by
        unfold ROrder at *
        rw [g0, g1]
        rcases hr with ⟨u, v⟩ | ⟨u, v⟩
        · exact Or.inr ⟨v, u⟩
        · exact Or.inl ⟨v, u⟩) (by rw [g0, gF]; exact x3) (fun q => by rw [g0, gF, x2 q]; exact hC q)
      refine ⟨S1, ?_, y2⟩
      show f_X5_sort_b31 (f_X5_sort_l31 (nI p) f) (nI p) (nI w) S = _
      unfold f_X5_sort_b31
      rw [if_neg (nI_ge (by omega) (by omega))]
      have x1 : f_X5_sort_l39 (f_X5_sort_l31 (nI p) f) (nI p) (nI w) fuel (0, S) = _ := x1
      rw [x1]
      exact y1
/-- the key of a part -/
def keyP (S : St) (i : Nat) : Int64 := (((gA S 32 i).toInt64 * 4 + (gA S 38 i).toInt64) * 128 + (gA S 34 i).toInt64) * 400 + (nI i).toInt64
theorem keyOf_eq (S : St) {i : Nat} (hi : i < 400) : f_X5_keyOf (nI i) S = some (keyP S i, S) := by
  have g1 : inb (nI i) 400 = true := inb_nI hi (by omega)
  have g2 : (nI i).toNatClampNeg = i := nI_clamp (by omega)
  unfold f_X5_keyOf f_X5_keyOf_b0 keyP
  simp only [chk_of g1, vlet_eq, rd, g2]
theorem key_loop {S : St} {p : Nat} (hp : p ≤ 400) (hr : ROrder S) : ∀ d i f F, i + d = p → d < f → (∀ k, k < i → F k = keyP S k) → ∃ F', (∀ k, k < p → F' k = keyP S k) ∧ f_X5_sort_l7 (nI p) f (nI i, pL S (gR S 0) F) = f_X5_sort_l31 (nI p) fuel (1, pL S (gR S 0) F') := by
  obtain ⟨iL0, iL1, hne⟩ := isL_of hr
  intro d
  induction d with
  | zero =>
    intro i f F hi hf hF
    have e : i = p := by omega
    subst e
    obtain ⟨f, rfl⟩ : ∃ f1, f = f1 + 1 := ⟨f - 1, by omega⟩
    refine ⟨F, hF, ?_⟩
    show f_X5_sort_b7 (f_X5_sort_l7 (nI i) f) (nI i) (nI i) (pL S (gR S 0) F) = _
    unfold f_X5_sort_b7
    rw [if_pos (nI_le (Nat.le_refl _) (by omega))]
  | succ d ih =>
    intro i f F hi hf hF
    obtain ⟨f, rfl⟩ : ∃ f1, f = f1 + 1 := ⟨f - 1, by omega⟩
    have g1 : inb (nI i) 400 = true := inb_nI (by omega) (by omega)
    have g2 : (nI i).toNatClampNeg = i := nI_clamp (by omega)
    have rF : gL (pL S (gR S 0) F) (gR S 0) = F := (gL_pL S _ _ F).trans (if_pos rfl)
    obtain ⟨F', x1, x2⟩ := ih (i + 1) f (vp_updL F i (keyP S i)) (by omega) (by omega) (fun k hk => by
      by_cases h : k = i
      · subst h; exact pk_uLs
      · rw [pk_uLn h]; exact hF k (by omega))
    refine ⟨F', x1, ?_⟩
    show f_X5_sort_b7 (f_X5_sort_l7 (nI p) f) (nI p) (nI i) (pL S (gR S 0) F) = _
    unfold f_X5_sort_b7
    rw [if_neg (nI_ge (by omega) (by omega)), keyOf_eq _ (by omega), bnd_mk, show gR (pL S (gR S 0) F) 0 = gR S 0 from rfl, chk_of iL0, chk_of g1, vlet_eq, nI_1]
    unfold wrL
    rw [rF, g2, pL_pL]
    exact x2
theorem sort_ok {S : St} {p : Nat} (hp : p ≤ 400) (hr : ROrder S) (e : gI S 19 = nI p) : ∃ S1, f_X5_sort S = some ((), S1) ∧ ROrder S1 ∧ (∀ q, cntQ q (gL S1 (gR S1 0)) p = cntQ q (keyP S) p) ∧ SrtR (gL S1 (gR S1 0)) 0 p := by
  have eS : pL S (gR S 0) (gL S (gR S 0)) = S := by
    have e : va_up S.2.2.1 (gR S 0) (gL S (gR S 0)) = S.2.2.1 := by
      funext j
      by_cases h : j = gR S 0
      · rw [h]; exact if_pos rfl
      · exact if_neg h
    show (S.1, S.2.1, va_up S.2.2.1 (gR S 0) (gL S (gR S 0)), S.2.2.2) = S
    rw [e]
  obtain ⟨F', x1, x2⟩ := key_loop hp hr p 0 fuel (gL S (gR S 0)) (by omega) (fuel_gt (by omega)) (fun k h => absurd h (Nat.not_lt_zero k))
  rw [eS] at x2
  have gF : gL (pL S (gR S 0) F') (gR (pL S (gR S 0) F') 0) = F' := (gL_pL S _ _ F').trans (if_pos rfl)
  obtain ⟨S1, y1, y2, y3, y4⟩ := sort_loop hp (fun q => cntQ q (keyP S) p) p 1 fuel (pL S (gR S 0) F') (Nat.le_refl _) (by omega) (by omega) (fuel_gt (by omega)) hr (fun m i j hi hij hj hjp => by
    have : i = j := by omega
    subst this
    exact Int64.le_refl _) (fun q => by rw [gF]; exact cntQ_congr x1)
  refine ⟨S1, ?_, y2, y3, y4⟩
  unfold f_X5_sort f_X5_sort_b0
  rw [e, vlet_eq]
  have x2 : f_X5_sort_l7 (nI p) fuel (0, S) = _ := x2
  rw [x2]
  exact y1
