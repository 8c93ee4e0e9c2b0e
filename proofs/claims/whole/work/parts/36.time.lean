/-! ===== floors; the time ===== -/
theorem xor_sign {a b : Int64} (hb : 0 ≤ b) : 0 ≤ a ^^^ b ↔ 0 ≤ a := by
  have q : ∀ x : Int64, 0 ≤ x ↔ x.toBitVec.msb = false := by
    intro x
    rw [le_int64, BitVec.msb_eq_toInt]
    have e : x.toBitVec.toInt = x.toInt := rfl
    have e0 : (0 : Int64).toInt = 0 := rfl
    rw [e, e0]
    simp only [decide_eq_false_iff_not, Int.not_lt]
  have hb := (q b).mp hb
  rw [q, q, Int64.toBitVec_xor, BitVec.msb_xor, hb, Bool.xor_false]
def fqL (a b : Int64) : Int64 := if a - a / b * b = 0 then a / b else if 0 ≤ a then a / b else a / b - 1
theorem nzL_pos {b : Int64} (hb : 0 < b) : nzL b = true := by
  unfold nzL
  exact decide_eq_true (fun e => by subst e; exact absurd hb (by decide))
theorem sub0 {a b : Int64} : a - b = 0 ↔ b = a := by
  constructor
  · intro h
    have : a - b + b = 0 + b := by rw [h]
    rw [Int64.sub_add_cancel, Int64.zero_add] at this
    exact this.symm
  · intro h; subst h; exact Int64.sub_self _
theorem floorDiv_eq {a b : Int64} (hb : 0 < b) (S : St) : f_J9_floorDiv_f86c9 a b S = some (fqL a b, S) := by
  unfold f_J9_floorDiv_f86c9 f_J9_floorDiv_f86c9_b0 f_J9_floorDiv_f86c9_b27 fqL
  rw [chk_of (nzL_pos hb)]
  simp only [vlet_eq]
  by_cases h0 : 0 ≤ a
  · rw [if_pos (cmp_ge.mpr ((xor_sign (Int64.le_of_lt hb)).mpr h0)), if_pos h0]
    split <;> rfl
  · rw [if_neg (fun q => h0 ((xor_sign (Int64.le_of_lt hb)).mp (cmp_ge.mp q))), if_neg h0]
    by_cases h1 : a - a / b * b = 0
    · rw [if_pos (cmp_eq.mpr (sub0.mp h1)), if_pos h1]
    · rw [if_neg (fun q => h1 (sub0.mpr (cmp_eq.mp q))), if_neg h1]
theorem floor_eq {a b : Int64} (hb : 0 < b) (S : St) : f_X12_floor a b S = some (fqL a b, S) := by
  unfold f_X12_floor f_X12_floor_b0 f_X12_floor_b24 f_X12_floor_b35 f_X12_floor_b45 f_X12_floor_b47 fqL
  rw [chk_of (nzL_pos hb)]
  simp only [vlet_eq]
  rw [chk_of (nzL_pos hb)]
  by_cases h1 : a - a / b * b = 0
  · rw [if_pos (cmp_eq.mpr h1), if_pos h1]
  · rw [if_neg (fun q => h1 (cmp_eq.mp q)), if_neg h1]
    have g : 0 ≤ lg_cmp b 0 := cmp_ge.mpr (Int64.le_of_lt hb)
    by_cases h0 : 0 ≤ a
    · rw [if_pos (cmp_ge.mpr h0), if_pos h0, if_pos g, if_pos True.intro]
    · rw [if_neg (fun q => h0 (cmp_ge.mp q)), if_neg h0, if_pos g, if_neg (by decide)]
theorem quot_eq {a b : Int64} (hb : 0 < b) (S : St) : f_X11_quotient a b S = some ((fqL a b).toInt32, S) := by
  unfold f_X11_quotient f_X11_quotient_b0 f_X11_quotient_b16
  rw [if_pos (cmp_gt.mpr hb), floorDiv_eq hb, bnd_mk]
theorem fq_0 (b : Int64) : fqL 0 b = 0 := by
  unfold fqL
  rw [Int64.zero_div, Int64.zero_mul, Int64.sub_self, if_pos rfl]
/-- what an arc adds -/
def arcAdd (A B C : Nat → Int32) (t : Int32) (k : Nat) : Int32 := (fqL (((4 * (C k).toInt64) * (t - A k).toInt64) * (B k - t).toInt64) ((B k - A k).toInt64 * (B k - A k).toInt64)).toInt32
def bentL (A B C : Nat → Int32) (t : Int32) (i : Nat) : Nat → Int32
  | 0 => t
  | d + 1 => if A i ≤ t ∧ t ≤ B i then t + arcAdd A B C t i else bentL A B C t (i + 1) d
def bentF (n : Nat) (A B C : Nat → Int32) (t : Int32) : Int32 := bentL A B C t 0 n
def ArcsOk (n : Nat) (A B C : Nat → Int32) : Prop := (∀ k, k < n → 0 ≤ A k ∧ A k < B k ∧ B k ≤ 20000 ∧ (-400) ≤ C k ∧ C k ≤ 400) ∧ (∀ i j, i < n → j < n → i ≠ j → B i ≤ A j ∨ B j ≤ A i)
theorem arc_den {a b : Int32} (h0 : 0 ≤ a) (h1 : a < b) (h2 : b ≤ 20000) : 0 < (b - a).toInt64 * (b - a).toInt64 := by
  rw [lt_int] at h1
  rw [le_int] at h0 h2
  have e0 : (0 : Int32).toInt = 0 := rfl
  have e2 : (20000 : Int32).toInt = 20000 := rfl
  rw [e0] at h0; rw [e2] at h2
  have e : (b - a).toInt = b.toInt - a.toInt := subI (by omega) (by omega)
  rw [lt_int64]
  have q1 : 1 ≤ (b - a).toInt := by omega
  have q2 : (b - a).toInt ≤ 20000 := by omega
  have q3 : (b - a).toInt * (b - a).toInt ≤ 20000 * 20000 := Int.mul_le_mul q2 q2 (by omega) (by omega)
  have q4 : 1 * 1 ≤ (b - a).toInt * (b - a).toInt := Int.mul_le_mul q1 q1 (by omega) (by omega)
  rw [mulL (by rw [wideI]; omega) (by rw [wideI]; omega), wideI]
  have e3 : (0 : Int64).toInt = 0 := rfl
  omega
theorem bent_eq {S : St} {n : Nat} (hn : n ≤ 6) (e1 : gI S 4 = nI n) (ok : ArcsOk n (gA S 21) (gA S 22) (gA S 23)) (t : Int32) : f_X0_bent t S = some (bentF n (gA S 21) (gA S 22) (gA S 23) t, S) := by
  have key : ∀ d i f, i + d = n → d < f → f_X0_bent_l2 t f (nI i, S) = some (bentL (gA S 21) (gA S 22) (gA S 23) t i d, S) := by
    intro d
    induction d with
    | zero =>
      intro i f hi hf
      have e : i = n := by omega
      subst e
      obtain ⟨f, rfl⟩ : ∃ f1, f = f1 + 1 := ⟨f - 1, by omega⟩
      unfold f_X0_bent_l2; rw [loopN_succ]; unfold f_X0_bent_b2; simp only [e1]
      rw [if_pos (nI_le (by omega) (by omega))]; rfl
    | succ d ih =>
      intro i f hi hf
      obtain ⟨f, rfl⟩ : ∃ f1, f = f1 + 1 := ⟨f - 1, by omega⟩
      have g3 : inb (nI i) 6 = true := inb_nI (by omega) (by omega)
      have g4 : (nI i).toNatClampNeg = i := nI_clamp (by omega)
      have g5 : ¬ nI n ≤ nI i := nI_ge (by omega) (by omega)
      obtain ⟨p1, p2, p3, p4, p5⟩ := ok.1 i (by omega)
      have g6 := arc_den p1 p2 p3
      show f_X0_bent_b2 (f_X0_bent_l2 t f) t (nI i) S = _
      unfold f_X0_bent_b2
      simp only [e1, if_neg g5, chk_of g3, rd, g4, nI_1, isWithin_eq, bnd_mk, ite01, vlet_eq, quot_eq g6]
      unfold bentL
      by_cases h : gA S 21 i ≤ t ∧ t ≤ gA S 22 i
      · rw [if_pos h, if_pos h]; rfl
      · rw [if_neg h, if_neg h]; exact ih (i + 1) f (by omega) (by omega)
  unfold f_X0_bent f_X0_bent_b0 bentF
  exact key n 0 fuel (by omega) (by unfold fuel; omega)
theorem arcAdd_end {A B C : Nat → Int32} {t : Int32} {k : Nat} (h : t = A k ∨ t = B k) : arcAdd A B C t k = 0 := by
  unfold arcAdd
  have e : ((4 * (C k).toInt64) * (t - A k).toInt64) * (B k - t).toInt64 = 0 := by
    rcases h with h | h
    · rw [← h, Int32.sub_self]
      show 4 * (C k).toInt64 * 0 * _ = 0
      rw [Int64.mul_zero, Int64.zero_mul]
    · rw [← h, Int32.sub_self]
      show _ * 0 = (0 : Int64)
      rw [Int64.mul_zero]
  rw [e, fq_0]; rfl
theorem time_eq {S T : St} {n : Nat} (hn : n ≤ 6) (e2 : gI T 27 = nI n) (hk : ∀ k, k < n → gA T 57 k = gA S 21 k ∧ gA T 58 k = gA S 22 k ∧ gA T 59 k = gA S 23 k) (ok : ArcsOk n (gA S 21) (gA S 22) (gA S 23)) (t : Int32) : f_X12_time t T = some (bentF n (gA S 21) (gA S 22) (gA S 23) t, T) := by
  have stp : ∀ i d f v, i + (d + 1) = n → f_X12_time_l4 t (f + 1) (v, nI i, T) = f_X12_time_l4 t f (if gA S 21 i < t ∧ t < gA S 22 i then arcAdd (gA S 21) (gA S 22) (gA S 23) t i else v, nI (i + 1), T) := by
    intro i d f v hi
    have g3 : inb (nI i) 6 = true := inb_nI (by omega) (by omega)
    have g4 : (nI i).toNatClampNeg = i := nI_clamp (by omega)
    have g5 : ¬ nI n ≤ nI i := nI_ge (by omega) (by omega)
    obtain ⟨p1, p2, p3, p4, p5⟩ := ok.1 i (by omega)
    obtain ⟨q1, q2, q3⟩ := hk i (by omega)
    have g6 := arc_den p1 p2 p3
    unfold f_X12_time_l4; rw [loopN_succ]; unfold f_X12_time_b4 f_X12_time_b89
    simp only [e2, if_neg g5, chk_of g3, rd, g4, nI_1, bnd_mk, vlet_eq, q1, q2, q3, floor_eq g6]
    by_cases h1 : t ≤ gA S 21 i
    · rw [if_pos h1, if_neg (fun q => Int32.not_le.mpr q.1 h1)]
    · rw [if_neg h1]
      by_cases h2 : gA S 22 i ≤ t
      · rw [if_pos h2, if_neg (fun q => Int32.not_le.mpr q.2 h2)]
      · rw [if_neg h2, if_pos ⟨Int32.not_le.mp h1, Int32.not_le.mp h2⟩]; rfl
  have stop : ∀ f v, f_X12_time_l4 t (f + 1) (v, nI n, T) = some (t + v, T) := by
    intro f v
    unfold f_X12_time_l4; rw [loopN_succ]; unfold f_X12_time_b4; simp only [e2]
    rw [if_pos (nI_le (by omega) (by omega))]
  have rest : ∀ d i f v, i + d = n → d < f → (∀ k, i ≤ k → k < n → ¬ (gA S 21 k < t ∧ t < gA S 22 k)) → f_X12_time_l4 t f (v, nI i, T) = some (t + v, T) := by
    intro d
    induction d with
    | zero =>
      intro i f v hi hf _
      have e : i = n := by omega
      subst e
      obtain ⟨f, rfl⟩ : ∃ f1, f = f1 + 1 := ⟨f - 1, by omega⟩
      exact stop f v
    | succ d ih =>
      intro i f v hi hf hno
      obtain ⟨f, rfl⟩ : ∃ f1, f = f1 + 1 := ⟨f - 1, by omega⟩
      rw [stp i d f v hi, if_neg (hno i (by omega) (by omega))]
      exact ih (i + 1) f v (by omega) (by omega) (fun k h1 h2 => hno k (by omega) h2)
  have key : ∀ d i f, i + d = n → d < f → f_X12_time_l4 t f (0, nI i, T) = some (bentL (gA S 21) (gA S 22) (gA S 23) t i d, T) := by
    intro d
    induction d with
    | zero =>
      intro i f hi hf
      have e : i = n := by omega
      subst e
      obtain ⟨f, rfl⟩ : ∃ f1, f = f1 + 1 := ⟨f - 1, by omega⟩
      rw [stop f 0, Int32.add_zero]; rfl
    | succ d ih =>
      intro i f hi hf
      obtain ⟨f, rfl⟩ : ∃ f1, f = f1 + 1 := ⟨f - 1, by omega⟩
      rw [stp i d f 0 hi]
      unfold bentL
      obtain ⟨p1, p2, p3, p4, p5⟩ := ok.1 i (by omega)
      by_cases h : gA S 21 i ≤ t ∧ t ≤ gA S 22 i
      · rw [if_pos h]
        have e : (if gA S 21 i < t ∧ t < gA S 22 i then arcAdd (gA S 21) (gA S 22) (gA S 23) t i else 0) = arcAdd (gA S 21) (gA S 22) (gA S 23) t i := by
          by_cases g : gA S 21 i < t ∧ t < gA S 22 i
          · rw [if_pos g]
          · rw [if_neg g]
            refine (arcAdd_end ?_).symm
            rw [eq_int, eq_int]
            rw [le_int, le_int] at h
            rw [lt_int, lt_int] at g
            omega
        rw [e]
        refine rest d (i + 1) f _ (by omega) (by omega) (fun k h1 h2 q => ?_)
        have z := ok.2 i k (by omega) h2 (by omega)
        have z2 := ok.1 k h2
        rw [le_int, le_int] at h z
        rw [lt_int, lt_int] at q
        rw [lt_int] at p2
        have z3 := lt_int.mp z2.2.1
        omega
      · rw [if_neg h, if_neg (fun q => h ⟨Int32.le_of_lt q.1, Int32.le_of_lt q.2⟩)]
        exact ih (i + 1) f (by omega) (by omega)
  unfold f_X12_time f_X12_time_b0 bentF
  exact key n 0 fuel (by omega) (by unfold fuel; omega)
theorem RArcs.ok {S T : St} (R : RArcs S T) : ∃ n, n ≤ 6 ∧ ArcsOk n (gA S 21) (gA S 22) (gA S 23) ∧ (∀ (S1 : St), gI S1 4 = gI S 4 → gA S1 21 = gA S 21 → gA S1 22 = gA S 22 → gA S1 23 = gA S 23 → ∀ t, f_X0_bent t S1 = some (bentF n (gA S 21) (gA S 22) (gA S 23) t, S1)) ∧ (∀ (T1 : St), gI T1 27 = gI T 27 → gA T1 57 = gA T 57 → gA T1 58 = gA T 58 → gA T1 59 = gA T 59 → ∀ t, f_X12_time t T1 = some (bentF n (gA S 21) (gA S 22) (gA S 23) t, T1)) := by
  obtain ⟨n, hn, e1, e2, hk, hd⟩ := R
  have ok : ArcsOk n (gA S 21) (gA S 22) (gA S 23) := ⟨fun k h => (hk k h).2, hd⟩
  refine ⟨n, hn, ok, fun S1 a b c d t => ?_, fun T1 a b c d t => ?_⟩
  · rw [← b, ← c, ← d]; exact bent_eq hn (a.trans e1) (by rw [b, c, d]; exact ok) t
  · exact time_eq hn (a.trans e2) (fun k h => by rw [b, c, d]; exact (hk k h).1) ok t
theorem op_timeOf (a1 : Int32) : Op (f_X11_timeOf a1) (f_X12_timeOf a1) := by
  intro S T R
  obtain ⟨n, hn, ok, hC, hM⟩ := R.2.2.2.1.ok
  unfold f_X11_timeOf f_X11_timeOf_b0 f_X11_timeOf_b24 f_X12_timeOf f_X12_timeOf_b0 f_X12_timeOf_b23
  simp only [isTick_eq, bnd_mk, ite01, in_w a1 0 20000 (lo := 0) (hi := 20000) (by decide) (by decide), hC S rfl rfl rfl rfl, hM T rfl rfl rfl rfl]
  by_cases h1 : 0 ≤ a1 ∧ a1 ≤ 20000
  · simp only [if_pos h1]; exact ⟨_, _, _, rfl, rfl, R⟩
  · simp only [if_neg h1]; exact ⟨_, _, _, rfl, rfl, R⟩
