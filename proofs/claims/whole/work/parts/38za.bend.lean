/-! ===== perform: the parts are bent ===== -/
theorem bend_loop {B : Int32 → Int32} {S T : St} {p : Nat} (hp : p ≤ 400) : ∀ d i f S', i + d = p → d < f → Rel S' T → BB S' = B → gI S' 19 = nI p → (∀ k, i ≤ k → k < p → gA S' 32 k = gA S 32 k ∧ gA S' 33 k = gA S 33 k) → (∀ k, k < i → gA S' 32 k = B (gA S 32 k) ∧ gA S' 33 k = imax 1 (B (gA S 32 k + gA S 33 k) - B (gA S 32 k))) → ∃ S1, f_X1_bend_l2 f (nI i, S') = some ((), S1) ∧ ∀ k, k < p → gA S1 32 k = B (gA S 32 k) ∧ gA S1 33 k = imax 1 (B (gA S 32 k + gA S 33 k) - B (gA S 32 k)) := by
  intro d
  induction d with
  | zero =>
    intro i f S' hi hf R hB e19 hge hlt
    have e : i = p := by omega
    subst e
    obtain ⟨f, rfl⟩ : ∃ f1, f = f1 + 1 := ⟨f - 1, by omega⟩
    refine ⟨S', ?_, hlt⟩
    show f_X1_bend_b2 (f_X1_bend_l2 f) (nI i) S' = _
    unfold f_X1_bend_b2
    rw [e19, if_pos (nI_le (Nat.le_refl _) (by omega))]
  | succ d ih =>
    intro i f S' hi hf R hB e19 hge hlt
    obtain ⟨f, rfl⟩ : ∃ f1, f = f1 + 1 := ⟨f - 1, by omega⟩
    have g1 : inb (nI i) 400 = true := inb_nI (by omega) (by omega)
    have g2 : (nI i).toNatClampNeg = i := nI_clamp (by omega)
    obtain ⟨hC, -, -⟩ := BB_of R.2.2.2.1
    rw [hB] at hC
    obtain ⟨h32, h33⟩ := hge i (Nat.le_refl i) (by omega)
    have F : Fr Wc S' (wr (wr S' 32 (nI i) (B (gA S 32 i))) 33 (nI i) (imax 1 (B (gA S 32 i + gA S 33 i) - B (gA S 32 i)))) := (Fr.sto rfl rfl : Fr Wc S' (wr S' 32 (nI i) (B (gA S 32 i)))).trans (Fr.sto rfl rfl)
    have E : f_X1_bend_l2 (f + 1) (nI i, S') = f_X1_bend_l2 f (nI (i + 1), wr (wr S' 32 (nI i) (B (gA S 32 i))) 33 (nI i) (imax 1 (B (gA S 32 i + gA S 33 i) - B (gA S 32 i)))) := by
      show f_X1_bend_b2 (f_X1_bend_l2 f) (nI i) S' = _
      unfold f_X1_bend_b2
      rw [e19, if_neg (nI_ge (show i < p by omega) (by omega)), chk_of g1, hC, bnd_mk, chk_of g1, chk_of g1, hC, bnd_mk, chk_of g1, vlet_eq, chk_of g1, vlet_eq, nI_1]
      simp only [rd, g2, h32, h33]
    rw [E]
    refine ih (i + 1) f _ (by omega) (by omega) (R.scr F Fr.rf) ((BB.scr F).trans hB) e19 (fun k h1 h2 => ?_) (fun k h1 => ?_)
    · simp only [gA_wr, reduceIte, Nat.reduceEqDiff, g2]
      rw [upd_ne (by omega), upd_ne (by omega)]
      exact hge k (by omega) h2
    · simp only [gA_wr, reduceIte, Nat.reduceEqDiff, g2]
      by_cases hk : k = i
      · subst hk
        rw [upd_self, upd_self]
        exact ⟨rfl, rfl⟩
      · rw [upd_ne hk, upd_ne hk]
        exact hlt k (by omega)
/-- the parts, bent: the same in both -/
def Bent (S T : St) (p : Nat) : Prop := gI S 19 = nI p ∧ gI T 33 = nI p ∧ (∀ i, i < p → (∀ c, c < 6 → gA T 65 (6 * i + c) = gA S (32 + c) i) ∧ (-1601 ≤ (gA S 32 i).toInt ∧ (gA S 32 i).toInt ≤ 21600) ∧ (1 ≤ (gA S 33 i).toInt ∧ (gA S 33 i).toInt ≤ 23201) ∧ (∃ j, j < 48 ∧ nI j < gI S 2 ∧ gA S 36 i = nI j ∧ gA S 38 i = gA S 13 j ∧ gA T 49 j = gA S 13 j) ∧ (∃ q, q ≤ 117 ∧ gA S 34 i = nI q) ∧ (∃ v, v ≤ 3 ∧ gA S 38 i = nI v)) ∧ ∀ i j, i ≤ j → j < p → gA S 36 i ≤ gA S 36 j
theorem bend_ok {B : Int32 → Int32} {S T : St} {p k : Nat} (hp : p ≤ 400) (R : Rel S T) (hB : BB S = B) (hP : Ps B S T p k) : ∃ S1, f_X1_bend S = some ((), S1) ∧ Bent S1 T p ∧ Rel S1 T := by
  obtain ⟨P0, P1, -⟩ := hP
  obtain ⟨e19, e20, Pt0, Pk, Pm⟩ := P1 hp
  obtain ⟨S1, h1, h2⟩ := bend_loop (S := S) hp p 0 fuel S (by omega) (fuel_gt (by omega)) R hB e19 (fun _ _ _ => ⟨rfl, rfl⟩) (fun k h => absurd h (Nat.not_lt_zero k))
  have h1 : f_X1_bend S = some ((), S1) := h1
  have F0 := fr_X1_bend S h1
  have F : Fr Wc S S1 := F0.mono rfl rfl rfl rfl
  have r13 : gA S1 13 = gA S 13 := F0.2.1 13 rfl
  have r34 : gA S1 34 = gA S 34 := F0.2.1 34 rfl
  have r35 : gA S1 35 = gA S 35 := F0.2.1 35 rfl
  have r36 : gA S1 36 = gA S 36 := F0.2.1 36 rfl
  have r37 : gA S1 37 = gA S 37 := F0.2.1 37 rfl
  have r38 : gA S1 38 = gA S 38 := F0.2.1 38 rfl
  have i2 : gI S1 2 = gI S 2 := F0.1 2 rfl
  obtain ⟨-, -, hbd⟩ := BB_of R.2.2.2.1
  rw [hB] at hbd
  refine ⟨S1, h1, ⟨(F0.1 19 rfl).trans e19, P0, fun i hi => ?_, fun i j hij hj => ?_⟩, R.scr F Fr.rf⟩
  · obtain ⟨⟨a, b, u1, u2, u3, u4, u5⟩, v, ⟨j, j1, j2, j3, j4⟩, ⟨q, y1, y2⟩⟩ := Pt0 i hi
    obtain ⟨w1, w2⟩ := h2 i hi
    rw [u2, u3, nI_add] at w2
    rw [u2] at w1
    obtain ⟨b1, b2⟩ := hbd a (by omega)
    obtain ⟨b3, b4⟩ := hbd (a + b) (by omega)
    have l1 : (1 : Int32).toInt = 1 := rfl
    have es : (B (nI (a + b)) - B (nI a)).toInt = (B (nI (a + b))).toInt - (B (nI a)).toInt := subI (by omega) (by omega)
    obtain ⟨n, hn, q1, q2, q3⟩ := R.1
    have hjn : j < n := by rw [q1] at j2; exact (nI_ltI (by omega) (by omega)).mp j2
    obtain ⟨⟨n49, -⟩, ok⟩ := q3 j hjn
    obtain ⟨vv, v1, v2⟩ := (upto (n := 3) rfl (by omega)).mp ok.1
    refine ⟨fun c hc => ?_, ?_, ?_, ⟨j, j1, by rw [i2]; exact j2, by rw [r36]; exact j3, by rw [r38, r13]; exact j4, by rw [r13]; exact n49⟩, ⟨q, y1, by rw [r34]; exact y2⟩, ⟨vv, v1, by rw [r38, j4]; exact v2⟩⟩
    · have hc2 : c = 0 ∨ c = 1 ∨ 2 ≤ c := by omega
      rcases hc2 with rfl | rfl | hc2
      · rw [u4]; exact w1.symm
      · rw [u5]; exact w2.symm
      · rw [v c hc2 hc]
        have hc3 : c = 2 ∨ c = 3 ∨ c = 4 ∨ c = 5 := by omega
        rcases hc3 with rfl | rfl | rfl | rfl
        · exact (congrFun r34 i).symm
        · exact (congrFun r35 i).symm
        · exact (congrFun r36 i).symm
        · exact (congrFun r37 i).symm
    · rw [w1]; exact ⟨b1, b2⟩
    · rw [w2, imax_int, l1, es]
      split <;> omega
  · rw [r36]; exact Pm i j hij hj
