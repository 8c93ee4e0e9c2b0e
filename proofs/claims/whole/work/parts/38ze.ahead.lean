/-! ===== perform: who is ahead, and where it is cut ===== -/
theorem ite_iff {P Q : Prop} {hP : Decidable P} {hQ : Decidable Q} (h : P ↔ Q) : (@ite Int32 P hP 1 0) = @ite Int32 Q hQ 1 0 := by
  by_cases q : Q
  · rw [if_pos q, if_pos (h.mpr q)]
  · rw [if_neg q, if_neg (fun x => q (h.mp x))]
theorem Bent.m {S T T1 : St} {p : Nat} (Bt : Bent S T p) (h33 : gI T1 33 = gI T 33) (h65 : gA T1 65 = gA T 65) (h49 : gA T1 49 = gA T 49) : Bent S T1 p := by
  unfold Bent; rw [h33, h65, h49]; exact Bt
theorem ahead_M {S T : St} {p : Nat} (Bt : Bent S T p) (hp : p ≤ 400) {a b : Nat} (ha : a < p) (hb : b < p) : f_X12_isAhead (nI a) (nI b) T = some (if keyP S a < keyP S b then 1 else 0, T) := by
  obtain ⟨ka, xa, va, qa⟩ := key_int Bt hp ha
  obtain ⟨kb, xb, vb, qb⟩ := key_int Bt hp hb
  obtain ⟨-, -, hh, hm⟩ := Bt
  obtain ⟨ra, -, -, ⟨ja, ja1, ja2, ja3, ja4, ja5⟩, -, -⟩ := hh a ha
  obtain ⟨rb, -, -, ⟨jb, jb1, jb2, jb3, jb4, jb5⟩, -, -⟩ := hh b hb
  have a0 := in6 (c := 0) (show a < 400 by omega) (by omega)
  have a2 := in6 (c := 2) (show a < 400 by omega) (by omega)
  have a4 := in6 (c := 4) (show a < 400 by omega) (by omega)
  have b0 := in6 (c := 0) (show b < 400 by omega) (by omega)
  have b2 := in6 (c := 2) (show b < 400 by omega) (by omega)
  have b4 := in6 (c := 4) (show b < 400 by omega) (by omega)
  have ca0 := cl6 (c := 0) (show a < 400 by omega) (by omega)
  have ca2 := cl6 (c := 2) (show a < 400 by omega) (by omega)
  have ca4 := cl6 (c := 4) (show a < 400 by omega) (by omega)
  have cb0 := cl6 (c := 0) (show b < 400 by omega) (by omega)
  have cb2 := cl6 (c := 2) (show b < 400 by omega) (by omega)
  have cb4 := cl6 (c := 4) (show b < 400 by omega) (by omega)
  have ra0 : gA T 65 (6 * a + 0) = gA S 32 a := ra 0 (by omega)
  have ra2 : gA T 65 (6 * a + 2) = gA S 34 a := ra 2 (by omega)
  have ra4 : gA T 65 (6 * a + 4) = gA S 36 a := ra 4 (by omega)
  have rb0 : gA T 65 (6 * b + 0) = gA S 32 b := rb 0 (by omega)
  have rb2 : gA T 65 (6 * b + 2) = gA S 34 b := rb 2 (by omega)
  have rb4 : gA T 65 (6 * b + 4) = gA S 36 b := rb 4 (by omega)
  have ija := inb_nI (k := ja) (n := 48) ja1 (by omega)
  have ijb := inb_nI (k := jb) (n := 48) jb1 (by omega)
  have cja : (nI ja).toNatClampNeg = ja := nI_clamp (by omega)
  have cjb : (nI jb).toNatClampNeg = jb := nI_clamp (by omega)
  have na : (gA S 36 a).toInt = ja := by rw [ja3, nI_toInt (by omega)]
  have nb : (gA S 36 b).toInt = jb := by rw [jb3, nI_toInt (by omega)]
  have mab : a ≤ b → (ja : Int) ≤ jb := fun h => by have := le_int.mp (hm a b h hb); omega
  have mba : b ≤ a → (jb : Int) ≤ ja := fun h => by have := le_int.mp (hm b a h ha); omega
  have i0 : isB 0 = true := rfl
  have i1 : isB 1 = true := rfl
  have e00 : (0 : Int32).toInt = 0 := rfl
  have z0 : ∀ v : Int32, v = 0 ↔ v.toInt = 0 := fun v => eq_int
  have dx : (gA S 32 a - gA S 32 b).toInt = (gA S 32 a).toInt - (gA S 32 b).toInt := subI (by omega) (by omega)
  have dv : (gA S 38 a - gA S 38 b).toInt = (gA S 38 a).toInt - (gA S 38 b).toInt := subI (by omega) (by omega)
  have dq : (gA S 34 a - gA S 34 b).toInt = (gA S 34 a).toInt - (gA S 34 b).toInt := subI (by omega) (by omega)
  have dn : (nI ja - nI jb).toInt = (ja : Int) - jb := pk_sub_toInt (by omega) (by omega)
  have e118 : ∀ v : Int32, f_X12_isAhead_b118 (nI a) (nI b) v T = some (if (v.toInt = 0 ∧ a < b) ∨ v.toInt < 0 then 1 else 0, T) := by
    intro v
    unfold f_X12_isAhead_b118 f_X12_isAhead_b144
    rw [chk_of i0, chk_of i1]
    by_cases h : v = 0
    · have h' := (z0 v).mp h
      rw [if_pos h]
      by_cases h2 : b ≤ a
      · rw [if_pos (nI_le h2 (by omega)), if_neg (by omega)]
      · rw [if_neg (nI_ge (by omega) (by omega)), if_pos (by omega)]
    · have h' : ¬ v.toInt = 0 := fun q => h ((z0 v).mpr q)
      rw [if_neg h]
      by_cases h2 : 0 ≤ v
      · have h2 := le_int.mp h2
        rw [e00] at h2
        rw [if_pos (le_int.mpr (by rw [e00]; exact h2)), if_neg (by omega)]
      · have h3 : ¬ 0 ≤ v.toInt := fun q => h2 (le_int.mpr (by rw [e00]; exact q))
        rw [if_neg h2, if_pos (by omega)]
  unfold f_X12_isAhead f_X12_isAhead_b0 f_X12_isAhead_b62 f_X12_isAhead_b90
  simp only [ix60, ix62, ix64, chk_of a0, chk_of a2, chk_of a4, chk_of b0, chk_of b2, chk_of b4, rd, ca0, ca2, ca4, cb0, cb2, cb4, ra0, ra2, ra4, rb0, rb2, rb4, vlet_eq, ja3, jb3, chk_of ija, chk_of ijb, cja, cjb, ja5, jb5, ← ja4, ← jb4, e118]
  by_cases h1 : gA S 32 a - gA S 32 b = 0
  · have h1' := (z0 _).mp h1
    simp only [if_pos h1]
    by_cases h2 : gA S 38 a - gA S 38 b = 0
    · have h2' := (z0 _).mp h2
      simp only [if_pos h2]
      by_cases h3 : gA S 34 a - gA S 34 b = 0
      · have h3' := (z0 _).mp h3
        simp only [if_pos h3]
        refine congrArg (fun z : Int32 => some (z, T)) (ite_iff ?_)
        rw [lt_int64, ka, kb, dn]
        rcases Nat.lt_or_ge a b with h | h
        · have := mab (by omega)
          omega
        · have := mba h
          omega
      · have h3' : ¬ _ = (0 : Int) := fun q => h3 ((z0 _).mpr q)
        simp only [if_neg h3]
        refine congrArg (fun z : Int32 => some (z, T)) (ite_iff ?_)
        rw [lt_int64, ka, kb, dq]
        omega
    · have h2' : ¬ _ = (0 : Int) := fun q => h2 ((z0 _).mpr q)
      simp only [if_neg h2]
      refine congrArg (fun z : Int32 => some (z, T)) (ite_iff ?_)
      rw [lt_int64, ka, kb, dv]
      omega
  · have h1' : ¬ _ = (0 : Int) := fun q => h1 ((z0 _).mpr q)
    simp only [if_neg h1]
    refine congrArg (fun z : Int32 => some (z, T)) (ite_iff ?_)
    rw [lt_int64, ka, kb, dx]
    omega
theorem cnt_le_n {q : Int64 → Bool} {A : Nat → Int64} : ∀ n, cntQ q A n ≤ n
  | 0 => Nat.le_refl 0
  | n + 1 => by
    have := cnt_le_n (q := q) (A := A) n
    rw [cntQ_succ]
    split <;> omega
theorem place_loop {S T : St} {p : Nat} (Bt : Bent S T p) (hp : p ≤ 400) {a : Nat} (ha : a < p) (rec50 : Int32 × St → Option (Int32 × St)) : ∀ d b f, b + d = p → d < f → f_X12_perform_l62 rec50 (nI a) f (nI (cntQ (fun x => decide (x < keyP S a)) (keyP S) b), nI b, T) = f_X12_perform_l95 rec50 (nI a) (nI (cntQ (fun x => decide (x < keyP S a)) (keyP S) p)) fuel (0, T) := by
  intro d
  induction d with
  | zero =>
    intro b f hb hf
    have e : b = p := by omega
    subst e
    obtain ⟨f, rfl⟩ : ∃ f1, f = f1 + 1 := ⟨f - 1, by omega⟩
    show f_X12_perform_b62 rec50 (f_X12_perform_l62 rec50 (nI a) f) (nI a) (nI (cntQ (fun x => decide (x < keyP S a)) (keyP S) b)) (nI b) T = _
    unfold f_X12_perform_b62
    rw [Bt.2.1, if_pos (nI_le (Nat.le_refl _) (by omega))]
  | succ d ih =>
    intro b f hb hf
    obtain ⟨f, rfl⟩ : ∃ f1, f = f1 + 1 := ⟨f - 1, by omega⟩
    have hc := cnt_le_n (q := fun x => decide (x < keyP S a)) (A := keyP S) b
    show f_X12_perform_b62 rec50 (f_X12_perform_l62 rec50 (nI a) f) (nI a) (nI (cntQ (fun x => decide (x < keyP S a)) (keyP S) b)) (nI b) T = _
    unfold f_X12_perform_b62 f_X12_perform_b85
    rw [Bt.2.1, if_neg (nI_ge (show b < p by omega) (by omega)), ahead_M Bt hp (by omega) ha, bnd_mk]
    simp only [vlet_eq, nI_1, ite01, Int32.add_zero]
    have := ih (b + 1) f (by omega) (by omega)
    rw [cntQ_succ] at this
    by_cases h : keyP S b < keyP S a
    · rw [if_pos (decide_eq_true h)] at this
      rw [if_pos h]; exact this
    · rw [if_neg (fun q => h (of_decide_eq_true q))] at this
      rw [if_neg h]; exact this
/-- where an event ends that is cut by the next one of its voice and pitch -/
def CutS (X L V Q : Nat → Int32) (p a : Nat) (e : Int) : Prop := ((X a).toInt < e ∧ e ≤ (X a).toInt + (L a).toInt) ∧ (∀ b, b < p → V a = V b → Q a = Q b → (X a).toInt < (X b).toInt → e ≤ (X b).toInt) ∧ (e = (X a).toInt + (L a).toInt ∨ ∃ b, b < p ∧ V a = V b ∧ Q a = Q b ∧ (X b).toInt = e)
theorem CutS.le {X L V Q : Nat → Int32} {p a : Nat} {e e' : Int} (h : CutS X L V Q p a e) (h' : CutS X L V Q p a e') : e' ≤ e := by
  obtain ⟨⟨h1, h2⟩, h3, h4⟩ := h
  obtain ⟨⟨k1, k2⟩, k3, k4⟩ := h'
  rcases h4 with h4 | ⟨b, b1, b2, b3, b4⟩
  · omega
  · have := k3 b b1 b2 b3 (by omega)
    omega
theorem CutS.uniq {X L V Q : Nat → Int32} {p a : Nat} {e e' : Int} (h : CutS X L V Q p a e) (h' : CutS X L V Q p a e') : e = e' := by
  have := h.le h'
  have := h'.le h
  omega
theorem cut_M {S T : St} {p : Nat} (Bt : Bent S T p) (hp : p ≤ 400) {a : Nat} (ha : a < p) : ∃ r e, f_X12_cut (nI a) T = some (r, T) ∧ r.toInt = e - (gA S 32 a).toInt ∧ CutS (gA S 32) (gA S 33) (gA S 38) (gA S 34) p a e := by
  have B33 := Bt.2.1
  have hh := Bt.2.2.1
  obtain ⟨ra, ⟨xa1, xa2⟩, ⟨la1, la2⟩, ⟨ja, ja1, ja2, ja3, ja4, ja5⟩, -, -⟩ := hh a ha
  have a0 := in6 (c := 0) (show a < 400 by omega) (by omega)
  have a1 := in6 (c := 1) (show a < 400 by omega) (by omega)
  have a2 := in6 (c := 2) (show a < 400 by omega) (by omega)
  have a4 := in6 (c := 4) (show a < 400 by omega) (by omega)
  have ca0 := cl6 (c := 0) (show a < 400 by omega) (by omega)
  have ca1 := cl6 (c := 1) (show a < 400 by omega) (by omega)
  have ca2 := cl6 (c := 2) (show a < 400 by omega) (by omega)
  have ca4 := cl6 (c := 4) (show a < 400 by omega) (by omega)
  have ra0 : gA T 65 (6 * a + 0) = gA S 32 a := ra 0 (by omega)
  have ra1 : gA T 65 (6 * a + 1) = gA S 33 a := ra 1 (by omega)
  have ra2 : gA T 65 (6 * a + 2) = gA S 34 a := ra 2 (by omega)
  have ra4 : gA T 65 (6 * a + 4) = gA S 36 a := ra 4 (by omega)
  have ija := inb_nI (k := ja) (n := 48) ja1 (by omega)
  have cja : (nI ja).toNatClampNeg = ja := nI_clamp (by omega)
  have key : ∀ d b f v, b + d = p → d < f → ((gA S 32 a).toInt < v.toInt ∧ v.toInt ≤ (gA S 32 a).toInt + (gA S 33 a).toInt) → (∀ k, k < b → gA S 38 a = gA S 38 k → gA S 34 a = gA S 34 k → (gA S 32 a).toInt < (gA S 32 k).toInt → v.toInt ≤ (gA S 32 k).toInt) → (v.toInt = (gA S 32 a).toInt + (gA S 33 a).toInt ∨ ∃ k, k < p ∧ gA S 38 a = gA S 38 k ∧ gA S 34 a = gA S 34 k ∧ (gA S 32 k).toInt = v.toInt) → ∃ r e, f_X12_cut_l29 (nI a) (gA S 32 a) f (v, nI b, T) = some (r, T) ∧ r.toInt = e - (gA S 32 a).toInt ∧ CutS (gA S 32) (gA S 33) (gA S 38) (gA S 34) p a e := by
    intro d
    induction d with
    | zero =>
      intro b f v hb hf h1 h2 h3
      have e : b = p := by omega
      subst e
      obtain ⟨f, rfl⟩ : ∃ f1, f = f1 + 1 := ⟨f - 1, by omega⟩
      refine ⟨v - gA S 32 a, v.toInt, ?_, subI (by omega) (by omega), h1, h2, h3⟩
      show f_X12_cut_b29 (f_X12_cut_l29 (nI a) (gA S 32 a) f) (nI a) (gA S 32 a) v (nI b) T = _
      unfold f_X12_cut_b29
      rw [B33, if_pos (nI_le (Nat.le_refl _) (by omega))]
    | succ d ih =>
      intro b f v hb hf h1 h2 h3
      obtain ⟨f, rfl⟩ : ∃ f1, f = f1 + 1 := ⟨f - 1, by omega⟩
      obtain ⟨rb, -, -, ⟨jb, jb1, jb2, jb3, jb4, jb5⟩, -, -⟩ := hh b (by omega)
      have b0 := in6 (c := 0) (show b < 400 by omega) (by omega)
      have b2 := in6 (c := 2) (show b < 400 by omega) (by omega)
      have b4 := in6 (c := 4) (show b < 400 by omega) (by omega)
      have cb0 := cl6 (c := 0) (show b < 400 by omega) (by omega)
      have cb2 := cl6 (c := 2) (show b < 400 by omega) (by omega)
      have cb4 := cl6 (c := 4) (show b < 400 by omega) (by omega)
      have rb0 : gA T 65 (6 * b + 0) = gA S 32 b := rb 0 (by omega)
      have rb2 : gA T 65 (6 * b + 2) = gA S 34 b := rb 2 (by omega)
      have rb4 : gA T 65 (6 * b + 4) = gA S 36 b := rb 4 (by omega)
      have ijb := inb_nI (k := jb) (n := 48) jb1 (by omega)
      have cjb : (nI jb).toNatClampNeg = jb := nI_clamp (by omega)
      have E : f_X12_cut_l29 (nI a) (gA S 32 a) (f + 1) (v, nI b, T) = f_X12_cut_l29 (nI a) (gA S 32 a) f (if gA S 38 a = gA S 38 b ∧ gA S 34 a = gA S 34 b ∧ gA S 32 a < gA S 32 b ∧ gA S 32 b < v then gA S 32 b else v, nI (b + 1), T) := by
        show f_X12_cut_b29 (f_X12_cut_l29 (nI a) (gA S 32 a) f) (nI a) (gA S 32 a) v (nI b) T = _
        unfold f_X12_cut_b29 f_X12_cut_b104 f_X12_cut_b105 f_X12_cut_b143 f_X12_cut_b144
        simp only [B33, if_neg (nI_ge (show b < p by omega) (by omega)), ix60, ix62, ix64, chk_of a2, chk_of a4, chk_of b0, chk_of b2, chk_of b4, rd, ca2, ca4, cb0, cb2, cb4, ra2, ra4, rb0, rb2, rb4, vlet_eq, ja3, jb3, chk_of ija, chk_of ijb, cja, cjb, ja5, jb5, ← ja4, ← jb4, nI_1, reduceIte, if_neg (show ¬ (1 : Int32) = 0 by decide)]
        by_cases c1 : gA S 38 a = gA S 38 b
        · by_cases c2 : gA S 34 a = gA S 34 b
          · by_cases c3 : gA S 32 b ≤ gA S 32 a
            · rw [if_pos c1, if_pos c2, if_pos c3, if_neg (fun q => Int32.not_le.mpr q.2.2.1 c3)]
            · by_cases c4 : v ≤ gA S 32 b
              · rw [if_pos c1, if_pos c2, if_neg c3, if_pos c4, if_neg (fun q => Int32.not_le.mpr q.2.2.2 c4)]
              · rw [if_pos c1, if_pos c2, if_neg c3, if_neg c4, if_pos ⟨c1, c2, Int32.not_le.mp c3, Int32.not_le.mp c4⟩]
          · rw [if_pos c1, if_neg c2, if_neg (fun q => c2 q.2.1)]
        · rw [if_neg c1, if_neg (fun q => c1 q.1)]
      rw [E]
      by_cases hq : gA S 38 a = gA S 38 b ∧ gA S 34 a = gA S 34 b ∧ gA S 32 a < gA S 32 b ∧ gA S 32 b < v
      · rw [if_pos hq]
        have q3 := lt_int.mp hq.2.2.1
        have q4 := lt_int.mp hq.2.2.2
        refine ih (b + 1) f _ (by omega) (by omega) ⟨q3, by omega⟩ (fun k hk k1 k2 k3 => ?_) (Or.inr ⟨b, by omega, hq.1, hq.2.1, rfl⟩)
        by_cases hkb : k = b
        · subst hkb; exact Int.le_refl _
        · have := h2 k (by omega) k1 k2 k3
          omega
      · rw [if_neg hq]
        refine ih (b + 1) f _ (by omega) (by omega) h1 (fun k hk k1 k2 k3 => ?_) h3
        by_cases hkb : k = b
        · subst hkb
          by_cases hv : gA S 32 k < v
          · exact absurd ⟨k1, k2, lt_int.mpr k3, hv⟩ hq
          · have hv2 : ¬ (gA S 32 k).toInt < v.toInt := fun q => hv (lt_int.mpr q)
            omega
        · exact h2 k (by omega) k1 k2 k3
  have es : (gA S 32 a + gA S 33 a).toInt = (gA S 32 a).toInt + (gA S 33 a).toInt := addI (by omega) (by omega)
  unfold f_X12_cut f_X12_cut_b0
  simp only [ix60, ix61, chk_of a0, chk_of a1, vlet_eq, rd, ca0, ca1, ra0, ra1]
  exact key p 0 fuel (gA S 32 a + gA S 33 a) (by omega) (fuel_gt (by omega)) (by omega) (fun k hk => absurd hk (Nat.not_lt_zero k)) (Or.inl es)
