/-! ===== perform: the order that the keys give ===== -/
theorem cnt_pos {q : Int64 → Bool} {A : Nat → Int64} : ∀ {n : Nat}, 0 < cntQ q A n → ∃ k, k < n ∧ q (A k) = true
  | 0, h => absurd h (Nat.lt_irrefl 0)
  | n + 1, h => by
    rw [cntQ_succ] at h
    by_cases hq : q (A n) = true
    · exact ⟨n, by omega, hq⟩
    · rw [if_neg hq] at h
      obtain ⟨k, k1, k2⟩ := cnt_pos (show 0 < cntQ q A n by omega)
      exact ⟨k, by omega, k2⟩
theorem cnt_le {q : Int64 → Bool} {A : Nat → Int64} : ∀ {n : Nat} (d : Nat), cntQ q A n ≤ cntQ q A (n + d)
  | _, 0 => Nat.le_refl _
  | n, d + 1 => by
    have := cnt_le (q := q) (A := A) (n := n) d
    rw [show n + (d + 1) = (n + d) + 1 from rfl, cntQ_succ]
    omega
theorem cnt_at {q : Int64 → Bool} {A : Nat → Int64} {n k : Nat} (h : k < n) (hq : q (A k) = true) : cntQ q A k + 1 ≤ cntQ q A n := by
  obtain ⟨d, rfl⟩ : ∃ d, n = k + 1 + d := ⟨n - k - 1, by omega⟩
  have h1 := cnt_le (q := q) (A := A) (n := k + 1) d
  rw [cntQ_succ, if_pos hq] at h1
  exact h1
theorem cnt_rank {q : Int64 → Bool} {A : Nat → Int64} {i : Nat} : ∀ {n : Nat}, i ≤ n → (∀ j, j < i → q (A j) = true) → (∀ j, i ≤ j → j < n → q (A j) = false) → cntQ q A n = i
  | 0, h, _, _ => by
    have : i = 0 := by omega
    subst this; rfl
  | n + 1, h, h1, h2 => by
    rw [cntQ_succ]
    by_cases hi : i = n + 1
    · subst hi
      rw [if_pos (h1 n (by omega)), cnt_rank (i := n) (Nat.le_refl n) (fun j hj => h1 j (by omega)) (fun j q1 q2 => absurd q2 (by omega))]
    · rw [cnt_rank (i := i) (n := n) (by omega) h1 (fun j q1 q2 => h2 j q1 (by omega)), h2 n (by omega) (by omega), if_neg (by decide), Nat.add_zero]
theorem cnt_one {A : Nat → Int64} (x : Int64) : ∀ {n : Nat}, (∀ i j, i < n → j < n → A i = A j → i = j) → cntQ (fun y => decide (y = x)) A n ≤ 1
  | 0, _ => Nat.zero_le 1
  | n + 1, inj => by
    rw [cntQ_succ]
    by_cases h : A n = x
    · have h0 : cntQ (fun y => decide (y = x)) A n = 0 := by
        refine cnt_rank (Nat.zero_le n) (fun j hj => absurd hj (Nat.not_lt_zero j)) (fun j _ hj => decide_eq_false (fun e => ?_))
        have := inj j n (by omega) (by omega) (e.trans h.symm)
        omega
      rw [h0]
      split <;> omega
    · have h1 := cnt_one x (n := n) (fun i j hi hj e => inj i j (by omega) (by omega) e)
      rw [if_neg (fun q => h (of_decide_eq_true q))]
      exact h1
theorem order_of {K A : Nat → Int64} {p : Nat} (inj : ∀ i j, i < p → j < p → K i = K j → i = j) (hc : ∀ q, cntQ q A p = cntQ q K p) (hs : SrtR A 0 p) : ∃ π : Nat → Nat, (∀ i, i < p → π i < p ∧ A i = K (π i)) ∧ (∀ a, a < p → ∃ i, i < p ∧ π i = a) ∧ (∀ i, i < p → cntQ (fun x => decide (x < A i)) K p = i) := by
  have hex : ∀ i, ∃ k, i < p → k < p ∧ A i = K k := by
    intro i
    by_cases hi : i < p
    · have h1 := cnt_at (q := fun y => decide (y = A i)) (A := A) hi (decide_eq_true rfl)
      rw [hc] at h1
      obtain ⟨k, k1, k2⟩ := cnt_pos (show 0 < cntQ (fun y => decide (y = A i)) K p by omega)
      exact ⟨k, fun _ => ⟨k1, (of_decide_eq_true k2).symm⟩⟩
    · exact ⟨0, fun h => absurd h hi⟩
  obtain ⟨π, hπ⟩ := Classical.axiomOfChoice hex
  refine ⟨π, hπ, fun a ha => ?_, fun i hi => ?_⟩
  · have h1 := cnt_at (q := fun y => decide (y = K a)) (A := K) ha (decide_eq_true rfl)
    rw [← hc] at h1
    obtain ⟨i, i1, i2⟩ := cnt_pos (show 0 < cntQ (fun y => decide (y = K a)) A p by omega)
    obtain ⟨u, v⟩ := hπ i i1
    exact ⟨i, i1, inj _ _ u ha (v.symm.trans (of_decide_eq_true i2))⟩
  · rw [← hc]
    refine cnt_rank (Nat.le_of_lt hi) (fun j hj => decide_eq_true ?_) (fun j h1 h2 => decide_eq_false ?_)
    · have h1 := le_int64.mp (hs j i (Nat.zero_le j) (by omega) hi)
      have hne : A j ≠ A i := by
        intro e
        have q1 := cnt_at (q := fun y => decide (y = A i)) (A := A) hi (decide_eq_true rfl)
        have q2 := cnt_at (q := fun y => decide (y = A i)) (A := A) hj (decide_eq_true e)
        have q3 := cnt_one (A i) inj
        rw [← hc] at q3
        omega
      have h2 : ¬ (A j).toInt = (A i).toInt := fun e => hne (eq_int64.mpr e)
      exact lt_int64.mpr (by omega)
    · exact Int64.not_lt.mpr (hs i j (Nat.zero_le i) h1 h2)
theorem fm400 {a : Int64} {k : Nat} {m : Int} (h : a.toInt = 400 * m + k) (hk : k < 400) (b1 : -1000000000000 ≤ a.toInt) (b2 : a.toInt ≤ 1000000000000) (S : St) : f_J9_floorMod_1978a a 400 S = some (nI k, S) := by
  unfold f_J9_floorMod_1978a f_J9_floorMod_1978a_b0 f_J9_floorMod_f86c9 f_J9_floorMod_f86c9_b0 f_J9_floorMod_f86c9_b25
  have e4 : (400 : Int32).toInt64 = 400 := by decide
  have e5 : (400 : Int64).toInt = 400 := rfl
  have e0 : (0 : Int64).toInt = 0 := rfl
  have hb : (0 : Int64) ≤ 400 := by decide
  have nz : nzL 400 = true := rfl
  rw [e4, chk_of nz, vlet_eq]
  have t1 : a.toInt.tdiv 400 = if 0 ≤ a.toInt then a.toInt / 400 else -((-a.toInt) / 400) := by
    split
    · rename_i g; exact Int.tdiv_eq_ediv_of_nonneg g
    · rename_i g
      rw [← Int.tdiv_eq_ediv_of_nonneg (by omega), Int.neg_tdiv, Int.neg_neg]
  generalize ht : a.toInt.tdiv 400 = t at t1
  have tb : -2500000001 ≤ t ∧ t ≤ 2500000001 := by split at t1 <;> omega
  have d1 : (a / 400).toInt = t := by rw [Int64.toInt_div, e5, ht, bm64 (by omega) (by omega)]
  have d2 : (a / 400 * 400).toInt = t * 400 := by rw [mulL (by rw [d1, e5]; omega) (by rw [d1, e5]; omega), d1, e5]
  have d3 : (a - a / 400 * 400).toInt = a.toInt - t * 400 := by rw [subL (by rw [d2]; omega) (by rw [d2]; omega), d2]
  generalize hy : a - a / 400 * 400 = y at *
  have fin : ∀ r : Int64, r.toInt = k → Int64.toInt32 r = nI k := by
    intro r hr
    refine eq_int.mpr ?_
    rw [Int64.toInt_toInt32, hr, bm32 (by omega) (by omega), nI_toInt (by omega)]
  by_cases h0 : 0 ≤ a
  · rw [if_pos (cmp_ge.mpr ((xor_sign hb).mpr h0)), bnd_mk]
    have h0 := le_int64.mp h0
    rw [e0] at h0
    rw [if_pos h0] at t1
    rw [fin y (by omega)]
  · rw [if_neg (fun q => h0 ((xor_sign hb).mp (cmp_ge.mp q)))]
    have h0 : ¬ 0 ≤ a.toInt := fun q => h0 (le_int64.mpr (by rw [e0]; exact q))
    rw [if_neg h0] at t1
    by_cases h1 : y = 0
    · rw [if_pos (cmp_eq.mpr h1), bnd_mk]
      rw [h1, e0] at d3
      rw [fin y (by rw [h1, e0]; omega)]
    · rw [if_neg (fun q => h1 (cmp_eq.mp q)), bnd_mk]
      have h1 : ¬ y.toInt = 0 := fun q => h1 (eq_int64.mpr (by rw [e0]; exact q))
      rw [fin (y + 400) (by rw [addL (by rw [e5]; omega) (by rw [e5]; omega), e5]; omega)]
theorem partAt_eq {S : St} (hr : ROrder S) {i k : Nat} {m : Int} (hi : i < 400) (hk : k < 400) (h : (gL S (gR S 0) i).toInt = 400 * m + k) (b1 : -1000000000000 ≤ (gL S (gR S 0) i).toInt) (b2 : (gL S (gR S 0) i).toInt ≤ 1000000000000) : f_X5_partAt (nI i) S = some (nI k, S) := by
  obtain ⟨iL0, iL1, hne⟩ := isL_of hr
  have g1 : inb (nI i) 400 = true := inb_nI hi (by omega)
  have g2 : (nI i).toNatClampNeg = i := nI_clamp (by omega)
  unfold f_X5_partAt f_X5_partAt_b0 rdL
  rw [chk_of iL0, chk_of g1, g2, fm400 h hk b1 b2, bnd_mk]
theorem key_int {S T : St} {p : Nat} (Bt : Bent S T p) (hp : p ≤ 400) {i : Nat} (hi : i < p) : (keyP S i).toInt = (((gA S 32 i).toInt * 4 + (gA S 38 i).toInt) * 128 + (gA S 34 i).toInt) * 400 + i ∧ (-1601 ≤ (gA S 32 i).toInt ∧ (gA S 32 i).toInt ≤ 21600) ∧ (0 ≤ (gA S 38 i).toInt ∧ (gA S 38 i).toInt ≤ 3) ∧ (0 ≤ (gA S 34 i).toInt ∧ (gA S 34 i).toInt ≤ 117) := by
  obtain ⟨-, -, hh, -⟩ := Bt
  obtain ⟨-, hx, -, -, ⟨q, q1, q2⟩, ⟨v, v1, v2⟩⟩ := hh i hi
  have ev : (gA S 38 i).toInt = v := by rw [v2, nI_toInt (by omega)]
  have eq : (gA S 34 i).toInt = q := by rw [q2, nI_toInt (by omega)]
  have ei : (nI i).toInt = i := nI_toInt (by omega)
  have e4 : (4 : Int64).toInt = 4 := rfl
  have e128 : (128 : Int64).toInt = 128 := rfl
  have e400 : (400 : Int64).toInt = 400 := rfl
  refine ⟨?_, hx, by omega, by omega⟩
  unfold keyP
  have m1 : ((gA S 32 i).toInt64 * 4).toInt = (gA S 32 i).toInt * 4 := by rw [mulL (by rw [wideI, e4]; omega) (by rw [wideI, e4]; omega), wideI, e4]
  have m2 : ((gA S 32 i).toInt64 * 4 + (gA S 38 i).toInt64).toInt = (gA S 32 i).toInt * 4 + (gA S 38 i).toInt := by rw [addL (by rw [m1, wideI]; omega) (by rw [m1, wideI]; omega), m1, wideI]
  have m3 : (((gA S 32 i).toInt64 * 4 + (gA S 38 i).toInt64) * 128).toInt = ((gA S 32 i).toInt * 4 + (gA S 38 i).toInt) * 128 := by rw [mulL (by rw [m2, e128]; omega) (by rw [m2, e128]; omega), m2, e128]
  have m4 : (((gA S 32 i).toInt64 * 4 + (gA S 38 i).toInt64) * 128 + (gA S 34 i).toInt64).toInt = ((gA S 32 i).toInt * 4 + (gA S 38 i).toInt) * 128 + (gA S 34 i).toInt := by rw [addL (by rw [m3, wideI]; omega) (by rw [m3, wideI]; omega), m3, wideI]
  have m5 : ((((gA S 32 i).toInt64 * 4 + (gA S 38 i).toInt64) * 128 + (gA S 34 i).toInt64) * 400).toInt = (((gA S 32 i).toInt * 4 + (gA S 38 i).toInt) * 128 + (gA S 34 i).toInt) * 400 := by rw [mulL (by rw [m4, e400]; omega) (by rw [m4, e400]; omega), m4, e400]
  rw [addL (by rw [m5, wideI, ei]; omega) (by rw [m5, wideI, ei]; omega), m5, wideI, ei]
theorem key_inj {S T : St} {p : Nat} (Bt : Bent S T p) (hp : p ≤ 400) : ∀ i j, i < p → j < p → keyP S i = keyP S j → i = j := by
  intro i j hi hj e
  obtain ⟨a1, a2, a3, a4⟩ := key_int Bt hp hi
  obtain ⟨b1, b2, b3, b4⟩ := key_int Bt hp hj
  rw [e] at a1
  omega
