/-! ===== read: numbers ===== -/
def NumQ (c : Int32) (m : Int64) : Prop := (c.toInt = m.toInt ∧ 0 ≤ m.toInt ∧ m.toInt ≤ 100000) ∨ (100000 < c.toInt ∧ c.toInt ≤ 1000000 ∧ 100000 < m.toInt ∧ m.toInt ≤ 1000009)
theorem numQ_step {c d : Int32} {m : Int64} (h : NumQ c m) (d1 : 48 ≤ d.toInt) (d2 : d.toInt ≤ 57) : NumQ (imin 1000000 ((c * 10 + d) - 48)) (if m ≤ 100000 then m * 10 + d.toInt64 - 48 else m) := by
  have e10 : (10 : Int32).toInt = 10 := rfl
  have e48 : (48 : Int32).toInt = 48 := rfl
  have f10 : (10 : Int64).toInt = 10 := rfl
  have f48 : (48 : Int64).toInt = 48 := rfl
  have eM : (1000000 : Int32).toInt = 1000000 := rfl
  have eH : (100000 : Int64).toInt = 100000 := rfl
  have hc : 0 ≤ c.toInt ∧ c.toInt ≤ 1000000 := by rcases h with h | h <;> omega
  have c1 : (c * 10).toInt = c.toInt * 10 := by rw [mulI (by rw [e10]; omega) (by rw [e10]; omega), e10]
  have c2 : (c * 10 + d).toInt = c.toInt * 10 + d.toInt := by rw [addI (by rw [c1]; omega) (by rw [c1]; omega), c1]
  have c3 : (c * 10 + d - 48).toInt = c.toInt * 10 + d.toInt - 48 := by rw [subI (by rw [c2, e48]; omega) (by rw [c2, e48]; omega), c2, e48]
  have c4 := imin_int 1000000 (c * 10 + d - 48)
  rw [c3, eM] at c4
  rcases h with ⟨h1, h2, h3⟩ | ⟨h1, h2, h3, h4⟩
  · have hm : m ≤ 100000 := le_int64.mpr (by rw [eH]; exact h3)
    rw [if_pos hm]
    have m1 : (m * 10).toInt = m.toInt * 10 := by rw [mulL (by rw [f10]; omega) (by rw [f10]; omega), f10]
    have m2 : (m * 10 + d.toInt64).toInt = m.toInt * 10 + d.toInt := by rw [addL (by rw [m1, wideI]; omega) (by rw [m1, wideI]; omega), m1, wideI]
    have m3 : (m * 10 + d.toInt64 - 48).toInt = m.toInt * 10 + d.toInt - 48 := by rw [subL (by rw [m2, f48]; omega) (by rw [m2, f48]; omega), m2, f48]
    unfold NumQ
    rw [m3]
    by_cases q : c.toInt * 10 + d.toInt - 48 < 1000000
    · rw [if_pos q] at c4; omega
    · rw [if_neg q] at c4; omega
  · have hm : ¬ m ≤ 100000 := fun r => by have := le_int64.mp r; rw [eH] at this; omega
    rw [if_neg hm]
    unfold NumQ
    by_cases q : c.toInt * 10 + d.toInt - 48 < 1000000
    · rw [if_pos q] at c4; omega
    · rw [if_neg q] at c4; omega
theorem numQ_in {c lo hi : Int32} {m : Int64} (h : NumQ c m) (h2 : hi.toInt ≤ 100000) : (lo ≤ c ∧ c ≤ hi) ↔ (lo.toInt64 ≤ m ∧ m ≤ hi.toInt64) := by
  rw [le_int, le_int, le_int64, le_int64, wideI, wideI]
  unfold NumQ at h
  constructor
  · intro q; omega
  · intro q; omega
theorem numQ_eq {c : Int32} {m : Int64} (h : NumQ c m) (h2 : c.toInt ≤ 100000) : m.toInt32 = c := by
  refine eq_int.mpr ?_
  unfold NumQ at h
  rw [Int64.toInt_toInt32, bm32 (by omega) (by omega)]
  omega
theorem nextF_le {n : Nat} {B : Nat → Int32} (b : BOk n B) {p : Nat} (hp : p ≤ n) : skipF B (endF n B p) (n - endF n B p) ≤ n := by
  have h := endF_ge hp b
  have h2 := skipF_le B (n - endF n B p) (endF n B p)
  omega
theorem num_C {n : Nat} {B : Nat → Int32} (b : BOk n B) {S : St} {p : Nat} (hT : TpC S n B) (hP : PcC S n B p) (hp : p ≤ n) (lo hi : Int32) (hh : hi.toInt ≤ 100000) : ∃ r S1, f_X7_takeNumber lo hi S = some (r, S1) ∧ ((r = 0 ∧ ¬ (kd (B p) = 3 ∧ lo.toInt64 ≤ ncF B p (endF n B p - p) ∧ ncF B p (endF n B p - p) ≤ hi.toInt64) ∧ gI S1 8 = nI p) ∨ (r = 1 ∧ (kd (B p) = 3 ∧ lo.toInt64 ≤ ncF B p (endF n B p - p) ∧ ncF B p (endF n B p - p) ≤ hi.toInt64) ∧ PcC S1 n B (skipF B (endF n B p) (n - endF n B p)) ∧ gI S1 11 = (ncF B p (endF n B p - p)).toInt32 ∧ lo ≤ gI S1 11 ∧ gI S1 11 ≤ hi)) := by
  have hn := b.1
  have hg := endF_ge hp b
  unfold f_X7_takeNumber f_X7_takeNumber_b0
  rw [hP.2.1]
  by_cases c3 : kd (B p) = 3
  case neg =>
    rw [if_neg c3]
    exact ⟨0, S, rfl, .inl ⟨rfl, fun h => c3 h.1, hP.1⟩⟩
  rw [if_pos c3, vlet_eq, vlet_eq, gI_pI, if_neg (by decide), hP.1]
  have dig : ∀ i, p + i < endF n B p → 48 ≤ (B (p + i)).toInt ∧ (B (p + i)).toInt ≤ 57 := by
    intro i hi
    have e : endF n B p = runF B 3 (p + 1) (n - (p + 1)) := by
      unfold endF
      rw [if_neg (by rw [c3]; decide), if_pos (.inr c3), c3]
    rw [e] at hi
    have h : kd (B (p + i)) = 3 := by
      by_cases h0 : i = 0
      · subst h0; exact c3
      · exact runF_in B 3 (n - (p + 1)) (p + 1) (p + i) (by omega) (by omega)
    have h2 := (kd3 _).mp h
    exact ⟨le_int.mp h2.1, le_int.mp h2.2⟩
  have key : ∀ d j f (S : St), p + j + d = endF n B p → d < f → PcC S n B p → TpC S n B → NumQ (gI S 11) (ncF B p j) → ∃ r S1, f_X7_takeNumber_l21 lo hi f (nI (p + j), S) = some (r, S1) ∧ ((r = 0 ∧ ¬ (lo.toInt64 ≤ ncF B p (endF n B p - p) ∧ ncF B p (endF n B p - p) ≤ hi.toInt64) ∧ gI S1 8 = nI p) ∨ (r = 1 ∧ (lo.toInt64 ≤ ncF B p (endF n B p - p) ∧ ncF B p (endF n B p - p) ≤ hi.toInt64) ∧ PcC S1 n B (skipF B (endF n B p) (n - endF n B p)) ∧ gI S1 11 = (ncF B p (endF n B p - p)).toInt32 ∧ lo ≤ gI S1 11 ∧ gI S1 11 ≤ hi)) := by
    intro d
    induction d with
    | zero =>
      intro j f S hj hf hP hT hQ
      obtain ⟨f, rfl⟩ : ∃ f1, f = f1 + 1 := ⟨f - 1, by omega⟩
      have ej : endF n B p - p = j := by omega
      have e1 : f_X7_takeNumber_l21 lo hi (f + 1) (nI (p + j), S) = f_X7_takeNumber_b21 (f_X7_takeNumber_l21 lo hi f) lo hi (nI (p + j)) S := rfl
      rw [e1]
      unfold f_X7_takeNumber_b21
      rw [hP.2.2, if_pos (nI_le (by omega) (by omega))]
      simp only [isWithin_eq, bnd_mk, ite01, ej]
      have hin := numQ_in (lo := lo) hQ hh
      by_cases q : lo ≤ gI S 11 ∧ gI S 11 ≤ hi
      · obtain ⟨S1, k1, k2, k3, k4⟩ := take_C b hg.2 hP.2.2 hT
        have F := fr_X7_takePiece S k1
        have e11 : gI S1 11 = gI S 11 := F.1 11 rfl
        rw [if_pos q, k1, bnd_mk]
        refine ⟨1, S1, rfl, .inr ⟨rfl, hin.mp q, ⟨k2, k3, k4⟩, ?_, ?_, ?_⟩⟩
        · rw [e11, numQ_eq hQ (by have := le_int.mp q.2; omega)]
        · rw [e11]; exact q.1
        · rw [e11]; exact q.2
      · rw [if_neg q]
        exact ⟨0, S, rfl, .inl ⟨rfl, fun h => q (hin.mpr h), hP.1⟩⟩
    | succ d ih =>
      intro j f S hj hf hP hT hQ
      obtain ⟨f, rfl⟩ : ∃ f1, f = f1 + 1 := ⟨f - 1, by omega⟩
      have e1 : f_X7_takeNumber_l21 lo hi (f + 1) (nI (p + j), S) = f_X7_takeNumber_l21 lo hi f (nI (p + (j + 1)), pI S 11 (imin 1000000 ((gI S 11 * 10 + B (p + j)) - 48))) := by
        show f_X7_takeNumber_b21 (f_X7_takeNumber_l21 lo hi f) lo hi (nI (p + j)) S = _
        unfold f_X7_takeNumber_b21
        rw [hP.2.2, if_neg (nI_ge (by omega) (by omega)), at_C hT b (by omega), bnd_mk, vlet_eq, nI_1]
        rfl
      rw [e1]
      have hd := dig j (by omega)
      exact ih (j + 1) f _ (by omega) (by omega) hP (hT.c rfl rfl) (numQ_step hQ hd.1 hd.2)
  obtain ⟨r, S1, k1, k2⟩ := key (endF n B p - p) 0 fuel (pI S 11 0) (by omega) (fuel_gt (by omega)) hP (hT.c rfl rfl) (.inl ⟨rfl, Int.le_refl 0, (by decide : (0 : Int) ≤ 100000)⟩)
  refine ⟨r, S1, k1, ?_⟩
  rcases k2 with ⟨q1, q2, q3⟩ | ⟨q1, q2, q3⟩
  · exact .inl ⟨q1, fun h => q2 h.2, q3⟩
  · exact .inr ⟨q1, ⟨c3, q2⟩, q3⟩
theorem sort_2 (x : Int32) : sortF x = 2 ↔ kd x = 3 := by
  unfold sortF
  by_cases h : kd x = 2
  · rw [if_pos h, h]; decide
  · rw [if_neg h]
    by_cases h3 : kd x = 3
    · rw [if_pos h3]; exact ⟨fun _ => h3, fun _ => rfl⟩
    · rw [if_neg h3]
      refine ⟨fun q => ?_, fun q => absurd q h3⟩
      split at q
      · exact absurd q (by decide)
      · split at q <;> exact absurd q (by decide)
theorem sort_1 (x : Int32) : sortF x = 1 ↔ kd x = 2 := by
  unfold sortF
  by_cases h : kd x = 2
  · rw [if_pos h]; exact ⟨fun _ => h, fun _ => rfl⟩
  · rw [if_neg h]
    refine ⟨fun q => ?_, fun q => absurd q h⟩
    split at q
    · exact absurd q (by decide)
    · split at q
      · exact absurd q (by decide)
      · split at q <;> exact absurd q (by decide)
theorem sort_3 (x : Int32) : sortF x = 3 ↔ x = 59 := by
  unfold sortF
  by_cases h : kd x = 2
  · rw [if_pos h]; refine ⟨fun q => absurd q (by decide), fun q => ?_⟩; subst q; exact absurd h (by decide)
  · rw [if_neg h]
    by_cases h3 : kd x = 3
    · rw [if_pos h3]; refine ⟨fun q => absurd q (by decide), fun q => ?_⟩; subst q; exact absurd h3 (by decide)
    · rw [if_neg h3]
      by_cases h4 : x = -1
      · rw [if_pos h4]; refine ⟨fun q => absurd q (by decide), fun q => ?_⟩; subst q; exact absurd h4 (by decide)
      · rw [if_neg h4]
        by_cases h5 : x = 59
        · rw [if_pos h5]; exact ⟨fun _ => h5, fun _ => rfl⟩
        · rw [if_neg h5]; exact ⟨fun q => absurd q (by decide), fun q => absurd q h5⟩
theorem num_M {n : Nat} {B : Nat → Int32} {T : St} {p : Nat} (hP : PcM T n B p) (lo hi : Int32) : f_X12_isNumber lo hi T = some (if kd (B p) = 3 ∧ lo.toInt64 ≤ ncF B p (endF n B p - p) ∧ ncF B p (endF n B p - p) ≤ hi.toInt64 then 1 else 0, T) := by
  unfold f_X12_isNumber f_X12_isNumber_b0 f_X12_isNumber_b26 f_X12_isNumber_b27
  rw [hP.2.1]
  have i0 : isB 0 = true := rfl
  have i1 : isB 1 = true := rfl
  by_cases c3 : kd (B p) = 3
  · rw [if_pos ((sort_2 _).mpr c3), in_eq, bnd_mk, ite01, chk_of i0, chk_of i1, hP.2.2.2.2 c3]
    by_cases q : lo.toInt64 ≤ ncF B p (endF n B p - p) ∧ ncF B p (endF n B p - p) ≤ hi.toInt64
    · rw [if_pos q, if_pos ⟨c3, q⟩]
    · rw [if_neg q, if_neg (fun h => q h.2)]
  · rw [if_neg (fun h => c3 ((sort_2 _).mp h)), chk_of i0, if_neg (fun h => c3 h.1)]
