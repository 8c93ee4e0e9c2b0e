/-! ===== perform: the reference puts its parts in order ===== -/
theorem pA_pA (S : St) (k : Nat) (F G : Nat → Int32) : pA (pA S k F) k G = pA S k G := by
  have e : va_up (va_up S.2.1 k F) k G = va_up S.2.1 k G := by
    funext j
    by_cases h : j = k
    · rw [h]; exact (if_pos rfl).trans (if_pos rfl).symm
    · exact ((if_neg h).trans (if_neg h)).trans (if_neg h).symm
  show (S.1, va_up (va_up S.2.1 k F) k G, S.2.2) = (S.1, va_up S.2.1 k G, S.2.2)
  rw [e]
theorem wr_pA (T : St) (k : Nat) (W : Nat → Int32) (i v : Int32) : wr (pA T k W) k i v = pA T k (upd W i.toNatClampNeg v) := by
  unfold wr
  rw [pA_pA, gA_pA, if_pos rfl]
/-- a part is copied to its place -/
theorem copy_loop {T : St} {a C : Nat} (ha : a < 400) (hC : C < 400) (rec50 : Int32 × St → Option (Int32 × St)) {cv : Int32} (hcut : ∀ W, f_X12_cut (nI a) (pA T 66 W) = some (cv, pA T 66 W)) : ∀ d c f W, c + d = 6 → d < f → (∀ k, k < c → W (6 * C + k) = gA T 65 (6 * a + k)) → ∃ W', f_X12_perform_l95 rec50 (nI a) (nI C) f (nI c, pA T 66 W) = rec50 (nI (a + 1), pA T 66 W') ∧ (∀ k, k < 6 → W' (6 * C + k) = if k = 1 then cv else gA T 65 (6 * a + k)) ∧ ∀ i k, i ≠ C → k < 6 → W' (6 * i + k) = W (6 * i + k) := by
  intro d
  induction d with
  | zero =>
    intro c f W hc hf hW
    have e : c = 6 := by omega
    subst e
    obtain ⟨f, rfl⟩ : ∃ f1, f = f1 + 1 := ⟨f - 1, by omega⟩
    refine ⟨upd W (6 * C + 1) cv, ?_, fun k hk => ?_, fun i k hi hk => upd_ne (by omega)⟩
    · show f_X12_perform_b95 rec50 (f_X12_perform_l95 rec50 (nI a) (nI C) f) (nI a) (nI C) (nI 6) (pA T 66 W) = _
      unfold f_X12_perform_b95
      rw [if_pos (show (6 : Int32) ≤ nI 6 by decide), hcut, bnd_mk, ix61, chk_of (in6 hC (by omega)), vlet_eq, nI_1, wr_pA, cl6 hC (by omega)]
    · by_cases h1 : k = 1
      · rw [if_pos h1, h1, upd_self]
      · rw [if_neg h1, upd_ne (by omega)]; exact hW k hk
  | succ d ih =>
    intro c f W hc hf hW
    obtain ⟨f, rfl⟩ : ∃ f1, f = f1 + 1 := ⟨f - 1, by omega⟩
    obtain ⟨W', x1, x2, x3⟩ := ih (c + 1) f (upd W (6 * C + c) (gA T 65 (6 * a + c))) (by omega) (by omega) (fun k hk => by
      by_cases h : k = c
      · subst h; exact upd_self
      · rw [upd_ne (by omega)]; exact hW k (by omega))
    refine ⟨W', ?_, x2, fun i k hi hk => ?_⟩
    · show f_X12_perform_b95 rec50 (f_X12_perform_l95 rec50 (nI a) (nI C) f) (nI a) (nI C) (nI c) (pA T 66 W) = _
      unfold f_X12_perform_b95
      rw [if_neg (show ¬ (6 : Int32) ≤ nI c from nI_ge (b := 6) (by omega) (by omega)), ix6, ix6, chk_of (in6 ha (by omega)), chk_of (in6 hC (by omega)), vlet_eq, nI_1, wr_pA, cl6 hC (by omega)]
      unfold rd
      rw [cl6 ha (by omega), gA_pA, if_neg (by decide)]
      exact x1
    · rw [x3 i k hi hk, upd_ne (by omega)]
theorem pA_self (T : St) (k : Nat) : pA T k (gA T k) = T := by
  have e : va_up T.2.1 k (gA T k) = T.2.1 := by
    funext j
    by_cases h : j = k
    · rw [h]; exact if_pos rfl
    · exact if_neg h
  show (T.1, va_up T.2.1 k (gA T k), T.2.2) = T
  rw [e]
/-- the reference's events, once it is through: part a stands at rank a -/
theorem ref_loop {S T : St} {p : Nat} (Bt : Bent S T p) (hp : p ≤ 400) (rk : Nat → Nat) (hrk : ∀ a, a < p → cntQ (fun x => decide (x < keyP S a)) (keyP S) p = rk a) (rlt : ∀ a, a < p → rk a < p) (rinj : ∀ a b, a < p → b < p → rk a = rk b → a = b) (e34 : gI T 34 = nI p) : ∀ d a f W, a + d = p → d < f → (∀ b, b < a → ∀ k, k < 6 → k ≠ 1 → W (6 * rk b + k) = gA T 65 (6 * b + k)) → (∀ b, b < a → ∃ r, f_X12_cut (nI b) T = some (r, T) ∧ W (6 * rk b + 1) = r) → ∃ W', f_X12_perform_l50 f (nI a, pA T 66 W) = some (nI p, pA T 66 W') ∧ (∀ b, b < p → ∀ k, k < 6 → k ≠ 1 → W' (6 * rk b + k) = gA T 65 (6 * b + k)) ∧ (∀ b, b < p → ∃ r, f_X12_cut (nI b) T = some (r, T) ∧ W' (6 * rk b + 1) = r) := by
  intro d
  induction d with
  | zero =>
    intro a f W ha hf h1 h2
    have e : a = p := by omega
    subst e
    obtain ⟨f, rfl⟩ : ∃ f1, f = f1 + 1 := ⟨f - 1, by omega⟩
    refine ⟨W, ?_, h1, h2⟩
    show f_X12_perform_b50 (f_X12_perform_l50 f) (nI a) (pA T 66 W) = _
    unfold f_X12_perform_b50
    rw [gI_pA, gI_pA, Bt.2.1, if_pos (nI_le (Nat.le_refl _) (by omega)), e34]
  | succ d ih =>
    intro a f W ha hf h1 h2
    obtain ⟨f, rfl⟩ : ∃ f1, f = f1 + 1 := ⟨f - 1, by omega⟩
    have hap : a < p := by omega
    have BtW : ∀ W, Bent S (pA T 66 W) p := fun W => Bt.m rfl rfl rfl
    obtain ⟨r, e, c1, c2, c3⟩ := cut_M Bt hp hap
    have hcut : ∀ W, f_X12_cut (nI a) (pA T 66 W) = some (r, pA T 66 W) := by
      intro W
      obtain ⟨r', e', c1', c2', c3'⟩ := cut_M (BtW W) hp hap
      have := c3.uniq c3'
      rw [c1', eq_int.mpr (show r'.toInt = r.toInt by omega)]
    obtain ⟨W1, x1, x2, x3⟩ := copy_loop (T := T) (show a < 400 by omega) (show rk a < 400 by have := rlt a hap; omega) (f_X12_perform_l50 f) hcut 6 0 fuel W (by omega) (fuel_gt (by omega)) (fun k hk => absurd hk (Nat.not_lt_zero k))
    obtain ⟨W', y1, y2, y3⟩ := ih (a + 1) f W1 (by omega) (by omega) (fun b hb k hk hk1 => by
      by_cases hba : b = a
      · subst hba; rw [x2 k hk, if_neg hk1]
      · rw [x3 (rk b) k (fun q => hba (rinj b a (by omega) hap q)) hk]
        exact h1 b (by omega) k hk hk1) (fun b hb => by
      by_cases hba : b = a
      · subst hba; exact ⟨r, c1, (x2 1 (by omega)).trans (if_pos rfl)⟩
      · obtain ⟨r2, q1, q2⟩ := h2 b (by omega)
        exact ⟨r2, q1, (x3 (rk b) 1 (fun q => hba (rinj b a (by omega) hap q)) (by omega)).trans q2⟩)
    refine ⟨W', ?_, y2, y3⟩
    show f_X12_perform_b50 (f_X12_perform_l50 f) (nI a) (pA T 66 W) = _
    unfold f_X12_perform_b50
    rw [gI_pA, Bt.2.1, if_neg (nI_ge hap (by omega))]
    have pl := place_loop (BtW W) hp hap (f_X12_perform_l50 f) p 0 fuel (by omega) (fuel_gt (by omega))
    rw [hrk a hap] at pl
    have pl : f_X12_perform_l62 (f_X12_perform_l50 f) (nI a) fuel (0, 0, pA T 66 W) = _ := pl
    rw [pl]
    have x1 : f_X12_perform_l95 (f_X12_perform_l50 f) (nI a) (nI (rk a)) fuel (0, pA T 66 W) = _ := x1
    rw [x1]
    exact y1
