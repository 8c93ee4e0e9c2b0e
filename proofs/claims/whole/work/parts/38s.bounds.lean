/-! ===== perform: where a time lies ===== -/
theorem i32_lits : (0 : Int32).toInt = 0 ∧ (1 : Int32).toInt = 1 ∧ (20000 : Int32).toInt = 20000 ∧ (400 : Int32).toInt = 400 ∧ (-400 : Int32).toInt = -400 := ⟨rfl, rfl, rfl, rfl, rfl⟩
theorem tdiv_bnd {a b M : Int} (hb : 0 < b) (h1 : -(M * b) ≤ a) (h2 : a ≤ M * b) : -M ≤ a.tdiv b ∧ a.tdiv b ≤ M := by
  by_cases h : a < 0
  · have e : a.tdiv b = -((-a) / b) := by
      rw [← Int.tdiv_eq_ediv_of_nonneg (by omega), Int.neg_tdiv, Int.neg_neg]
    have u1 : (-a) / b ≤ M := Int.ediv_le_of_le_mul hb (by omega)
    have u2 : 0 ≤ (-a) / b := Int.ediv_nonneg (by omega) (by omega)
    rw [e]; constructor <;> omega
  · rw [Int.tdiv_eq_ediv_of_nonneg (by omega)]
    have u1 : a / b ≤ M := Int.ediv_le_of_le_mul hb h2
    have u2 : 0 ≤ a / b := Int.ediv_nonneg (by omega) (by omega)
    constructor <;> omega
theorem fq_bnd {a b : Int64} {M : Int} (hM : M < 2147483640) (hb : 0 < b.toInt) (h1 : -(M * b.toInt) ≤ a.toInt) (h2 : a.toInt ≤ M * b.toInt) : -M - 1 ≤ (fqL a b).toInt ∧ (fqL a b).toInt ≤ M := by
  obtain ⟨u1, u2⟩ := tdiv_bnd hb h1 h2
  have e : (a / b).toInt = a.toInt.tdiv b.toInt := by
    rw [Int64.toInt_div, bm64 (by omega) (by omega)]
  have f1 : (1 : Int64).toInt = 1 := rfl
  have e1 : (a / b - 1).toInt = a.toInt.tdiv b.toInt - 1 := by
    rw [subL (by rw [e, f1]; omega) (by rw [e, f1]; omega), e, f1]
  unfold fqL
  split
  · rw [e]; omega
  · split
    · rw [e]; omega
    · rw [e1]; omega
theorem arcAdd_bnd {A B C : Nat → Int32} {t : Int32} {k : Nat} (p1 : 0 ≤ A k) (p3 : B k ≤ 20000) (p4 : -400 ≤ C k) (p5 : C k ≤ 400) (q1 : A k ≤ t) (q2 : t ≤ B k) (p2 : A k < B k) : -1601 ≤ (arcAdd A B C t k).toInt ∧ (arcAdd A B C t k).toInt ≤ 1600 := by
  obtain ⟨l0, l1, l2, l3, l4⟩ := i32_lits
  have p1 := le_int.mp p1
  have p2 := lt_int.mp p2
  have p3 := le_int.mp p3
  have p4 := le_int.mp p4
  have p5 := le_int.mp p5
  have q1 := le_int.mp q1
  have q2 := le_int.mp q2
  rw [l0] at p1; rw [l2] at p3; rw [l4] at p4; rw [l3] at p5
  have ex : (t - A k).toInt = t.toInt - (A k).toInt := subI (by omega) (by omega)
  have ey : (B k - t).toInt = (B k).toInt - t.toInt := subI (by omega) (by omega)
  have ew : (B k - A k).toInt = (B k).toInt - (A k).toInt := subI (by omega) (by omega)
  unfold arcAdd
  have f4 : (4 : Int64).toInt = 4 := rfl
  have m1 : (4 * (C k).toInt64).toInt = 4 * (C k).toInt := by
    rw [mulL (by rw [f4, wideI]; omega) (by rw [f4, wideI]; omega), f4, wideI]
  generalize hc : 4 * (C k).toInt = c at *
  generalize hx : (t - A k).toInt = x at *
  generalize hy : (B k - t).toInt = y at *
  generalize hw : (B k - A k).toInt = w at *
  have x0 : 0 ≤ x := by omega
  have y0 : 0 ≤ y := by omega
  have xw : x ≤ w := by omega
  have yw : y ≤ w := by omega
  have w2 : w ≤ 20000 := by omega
  have w1 : 1 ≤ w := by omega
  have c1 : -1600 ≤ c := by omega
  have c2 : c ≤ 1600 := by omega
  have cx1 : -1600 * x ≤ c * x := Int.mul_le_mul_of_nonneg_right c1 x0
  have cx2 : c * x ≤ 1600 * x := Int.mul_le_mul_of_nonneg_right c2 x0
  have xy0 : 0 ≤ x * y := Int.mul_nonneg x0 y0
  have xyw : x * y ≤ w * w := Int.mul_le_mul xw yw y0 (by omega)
  have ww : w * w ≤ 20000 * 20000 := Int.mul_le_mul w2 w2 (by omega) (by omega)
  have ww0 : 1 * 1 ≤ w * w := Int.mul_le_mul w1 w1 (by omega) (by omega)
  have z1 : -1600 * (x * y) ≤ c * (x * y) := Int.mul_le_mul_of_nonneg_right c1 xy0
  have z2 : c * (x * y) ≤ 1600 * (x * y) := Int.mul_le_mul_of_nonneg_right c2 xy0
  have m2 : (4 * (C k).toInt64 * (t - A k).toInt64).toInt = c * x := by
    rw [mulL (by rw [m1, wideI, hx]; omega) (by rw [m1, wideI, hx]; omega), m1, wideI, hx]
  have e3 : c * x * y = c * (x * y) := Int.mul_assoc _ _ _
  have m3 : (4 * (C k).toInt64 * (t - A k).toInt64 * (B k - t).toInt64).toInt = c * (x * y) := by
    rw [mulL (by rw [m2, wideI, hy, e3]; omega) (by rw [m2, wideI, hy, e3]; omega), m2, wideI, hy, e3]
  have m4 : ((B k - A k).toInt64 * (B k - A k).toInt64).toInt = w * w := by
    rw [mulL (by rw [wideI, hw]; omega) (by rw [wideI, hw]; omega), wideI, hw]
  obtain ⟨b1, b2⟩ := fq_bnd (a := 4 * (C k).toInt64 * (t - A k).toInt64 * (B k - t).toInt64) (b := (B k - A k).toInt64 * (B k - A k).toInt64) (M := 1600) (by omega) (by rw [m4]; omega) (by rw [m3, m4]; omega) (by rw [m3, m4]; omega)
  rw [Int64.toInt_toInt32, bm32 (by omega) (by omega)]
  omega
theorem bentL_bnd {A B C : Nat → Int32} {t : Int32} {n : Nat} (ok : ArcsOk n A B C) (h0 : 0 ≤ t.toInt) (h1 : t.toInt ≤ 20000) : ∀ d i, i + d = n → -1601 ≤ (bentL A B C t i d).toInt ∧ (bentL A B C t i d).toInt ≤ 21600
  | 0, _, _ => by unfold bentL; omega
  | d + 1, i, hi => by
    unfold bentL
    obtain ⟨p1, p2, p3, p4, p5⟩ := ok.1 i (by omega)
    by_cases h : A i ≤ t ∧ t ≤ B i
    · rw [if_pos h]
      obtain ⟨b1, b2⟩ := arcAdd_bnd p1 p3 p4 p5 h.1 h.2 p2
      rw [addI (by omega) (by omega)]
      omega
    · rw [if_neg h]; exact bentL_bnd ok h0 h1 d (i + 1) (by omega)
/-- the time of a tick, by the class's arcs -/
def BB (S : St) (t : Int32) : Int32 := bentF (gI S 4).toNatClampNeg (gA S 21) (gA S 22) (gA S 23) t
theorem BB_of {S T : St} (R : RArcs S T) : (∀ t, f_X0_bent t S = some (BB S t, S)) ∧ (∀ t, f_X12_time t T = some (BB S t, T)) ∧ (∀ a, a ≤ 20000 → -1601 ≤ (BB S (nI a)).toInt ∧ (BB S (nI a)).toInt ≤ 21600) := by
  obtain ⟨n, hn, e1, e2, hk, hd⟩ := R
  have ok : ArcsOk n (gA S 21) (gA S 22) (gA S 23) := ⟨fun k h => (hk k h).2, hd⟩
  have e : (gI S 4).toNatClampNeg = n := by rw [e1, nI_clamp (by omega)]
  unfold BB
  rw [e]
  refine ⟨fun t => bent_eq hn e1 ok t, fun t => time_eq hn e2 (fun k h => (hk k h).1) ok t, fun a ha => ?_⟩
  exact bentL_bnd ok (by rw [nI_toInt (by omega)]; omega) (by rw [nI_toInt (by omega)]; omega) n 0 (by omega)
/-! where a note begins -/
theorem rem_bnd {y : Int64} {x : Int32} (hy : 0 ≤ y) (h1 : 0 ≤ x) (h2 : x ≤ 99) : 0 ≤ (Int64.toInt32 (y - y / (2 * x.toInt64 + 1) * (2 * x.toInt64 + 1))).toInt ∧ (Int64.toInt32 (y - y / (2 * x.toInt64 + 1) * (2 * x.toInt64 + 1))).toInt ≤ 2 * x.toInt := by
  have a1 := le_int.mp h1
  have a2 := le_int.mp h2
  have e0 : (0 : Int32).toInt = 0 := rfl
  have e99 : (99 : Int32).toInt = 99 := rfl
  have f2 : (2 : Int64).toInt = 2 := rfl
  have f1 : (1 : Int64).toInt = 1 := rfl
  have f0 : (0 : Int64).toInt = 0 := rfl
  have m1 : (2 * x.toInt64).toInt = 2 * x.toInt := by rw [mulL (by rw [f2, wideI]; omega) (by rw [f2, wideI]; omega), f2, wideI]
  have m2 : (2 * x.toInt64 + 1).toInt = 2 * x.toInt + 1 := by rw [addL (by rw [m1, f1]; omega) (by rw [m1, f1]; omega), m1, f1]
  have hy := le_int64.mp hy
  rw [f0] at hy
  have hyb := rngL y
  generalize hz : 2 * x.toInt64 + 1 = z at *
  have zp : 0 < z.toInt := by omega
  have d0 : y.toInt.tdiv z.toInt = y.toInt / z.toInt := Int.tdiv_eq_ediv_of_nonneg hy
  have d1 : 0 ≤ y.toInt / z.toInt := Int.ediv_nonneg hy (by omega)
  have d2 : y.toInt / z.toInt * z.toInt ≤ y.toInt := Int.ediv_mul_le _ (by omega)
  have d3 : y.toInt < (y.toInt / z.toInt + 1) * z.toInt := Int.lt_ediv_add_one_mul_self _ zp
  rw [Int.add_mul, Int.one_mul] at d3
  have d4 : y.toInt / z.toInt ≤ y.toInt := Int.ediv_le_self _ hy
  have d5 : 0 ≤ y.toInt / z.toInt * z.toInt := Int.mul_nonneg d1 (by omega)
  have e1 : (y / z).toInt = y.toInt / z.toInt := by rw [Int64.toInt_div, d0, bm64 (by omega) (by omega)]
  have e2 : (y / z * z).toInt = y.toInt / z.toInt * z.toInt := by rw [mulL (by rw [e1]; omega) (by rw [e1]; omega), e1]
  have e3 : (y - y / z * z).toInt = y.toInt - y.toInt / z.toInt * z.toInt := by rw [subL (by rw [e2]; omega) (by rw [e2]; omega), e2]
  rw [Int64.toInt_toInt32, e3, bm32 (by omega) (by omega)]
  omega
theorem on_bnd {S T : St} (RN : RNotes S T) (RR : RRules S T) {k n : Nat} (hn : gI S 2 = nI n) (hn48 : n ≤ 48) (hk : k < n) {o : Int32} (h : f_X12_onOf (nI k) T = some (o, T)) : ∃ a, a ≤ 9699 ∧ o = nI a := by
  have RN0 := RN
  obtain ⟨n2, h48, e1, e2, hh⟩ := RN
  have e : n2 = n := (nI_eq (by omega) (by omega)).mp (e1.symm.trans hn)
  subst e
  obtain ⟨⟨q1, q2, q3, q4, q5⟩, ok⟩ := hh k hk
  obtain ⟨x, c1, c2, c3, c4⟩ := num_note RN0 RR hn hn48 hk (show 12 < 13 by omega)
  have g1 : inb (nI k) 48 = true := inb_nI (by omega) (by omega)
  have g2 : (nI k).toNatClampNeg = k := nI_clamp (by omega)
  have x0 : 0 ≤ x := c3
  have x9 : x ≤ 99 := c4
  obtain ⟨z1, z2⟩ := vdiv x x0 x9
  have c2 : f_X12_number (gA S 13 k) 12 T = some (x, T) := c2
  obtain ⟨s, s1, s2⟩ := (upto (n := 9600) rfl (by omega)).mp ok.2.1
  unfold f_X12_onOf f_X12_onOf_b0 f_X12_onOf_b92 at h
  simp only [rd, g2, chk_of g1, q1, c2, bnd_mk, vlet_eq, q2, chk_of (nzL_pos z1)] at h
  by_cases hx : x = 0
  · rw [if_pos hx] at h
    cases h
    exact ⟨s, by omega, s2⟩
  · rw [if_neg hx] at h
    revert h
    generalize hyy : lus _ 33 = y
    have hy0 : 0 ≤ y := by rw [← hyy]; exact lus33 _
    have r := rem_bnd hy0 x0 x9
    revert r
    generalize Int64.toInt32 (y - y / (2 * x.toInt64 + 1) * (2 * x.toInt64 + 1)) = w
    intro r h
    have a1 := le_int.mp x0
    have a2 := le_int.mp x9
    have e0 : (0 : Int32).toInt = 0 := rfl
    have e99 : (99 : Int32).toInt = 99 := rfl
    have s3 := nI_toInt (n := s) (by omega)
    rw [s2] at h
    have u1 : (nI s + w).toInt = s + w.toInt := by rw [addI (by omega) (by omega), s3]
    have u2 : (nI s + w - x).toInt = s + w.toInt - x.toInt := by rw [subI (by omega) (by omega), u1]
    by_cases hu : 0 ≤ nI s + w - x
    · rw [if_pos hu] at h
      have h := congrArg Prod.fst (Option.some.inj h)
      have h : nI s + w - x = o := h
      subst h
      obtain ⟨j, hj, e⟩ := nI_of (Int32.not_lt.mpr hu)
      refine ⟨j, ?_, e⟩
      rw [e, nI_toInt hj] at u2
      omega
    · rw [if_neg hu] at h
      have h := congrArg Prod.fst (Option.some.inj h)
      have h : (0 : Int32) = o := h
      exact ⟨0, by omega, h.symm⟩
