/-! ===== read: the reference's piece; words and numbers ===== -/
def sortF (b : Int32) : Int32 := if kd b = 2 then 1 else if kd b = 3 then 2 else if b = -1 then 0 else if b = 59 then 3 else 4
theorem endF_ge {n : Nat} {B : Nat → Int32} {p : Nat} (hp : p ≤ n) (b : BOk n B) : p ≤ endF n B p ∧ endF n B p ≤ n := by
  unfold endF
  by_cases c0 : kd (B p) = 0
  · rw [if_pos c0]; omega
  · have hp : p < n := by
      rcases Nat.lt_or_ge p n with h | h
      · exact h
      · exact absurd (by rw [b.2.2 p h]; rfl) c0
    rw [if_neg c0]
    have := runF_le B (kd (B p)) (n - (p + 1)) (p + 1)
    split <;> omega
theorem l0_M {n : Nat} {B : Nat → Int32} (b : BOk n B) : ∀ d i f T, i + d = n → d < f → gI T 32 = nI i → TpM T n B → ∃ g T1, f_X12_take_l0 f T = f_X12_take_b0 g T1 ∧ gI T1 32 = nI (skipF B i d) ∧ TpM T1 n B := by
  intro d
  have hn := b.1
  induction d with
  | zero =>
    intro i f T hi hf h8 hT
    obtain ⟨f, rfl⟩ : ∃ f1, f = f1 + 1 := ⟨f - 1, by omega⟩
    exact ⟨f_X12_take_l0 f, T, rfl, h8, hT⟩
  | succ d ih =>
    intro i f T hi hf h8 hT
    obtain ⟨f, rfl⟩ : ∃ f1, f = f1 + 1 := ⟨f - 1, by omega⟩
    unfold skipF
    by_cases q : kd (B i) = 1
    · have E : f_X12_take_l0 (f + 1) T = f_X12_take_l0 f (pI T 32 (nI (i + 1))) := by
        show f_X12_take_b0 (f_X12_take_l0 f) T = _
        unfold f_X12_take_b0 f_X12_take_b26
        simp only [h8, at_M hT b (show i < 2 ^ 31 by omega), bnd_mk, vlet_eq, nI_1]
        rcases (kd1 _).mp q with z | z
        · rw [if_pos z]
        · by_cases z2 : B i = 32
          · rw [if_pos z2]
          · rw [if_neg z2, if_pos z]
      rw [E, if_pos q]
      exact ih (i + 1) f _ (by omega) (by omega) rfl (hT.m rfl rfl)
    · rw [if_neg q]
      exact ⟨f_X12_take_l0 f, T, rfl, h8, hT⟩
/-- what the reference holds of a piece -/
def PcM (T : St) (n : Nat) (B : Nat → Int32) (p : Nat) : Prop := gI T 31 = nI p ∧ gI T 30 = sortF (B p) ∧ gI T 32 = nI (if kd (B p) = 0 then p + 1 else endF n B p) ∧ (kd (B p) = 2 → gJ T 2 = wcF B p (endF n B p - p)) ∧ (kd (B p) = 3 → gJ T 2 = ncF B p (endF n B p - p))
def PcC (S : St) (n : Nat) (B : Nat → Int32) (p : Nat) : Prop := gI S 8 = nI p ∧ gI S 10 = kd (B p) ∧ gI S 9 = nI (endF n B p)
theorem take_M {n : Nat} {B : Nat → Int32} (b : BOk n B) {T : St} {t : Nat} (ht : t ≤ n) (h9 : gI T 32 = nI t) (hT : TpM T n B) : ∃ T1, f_X12_take T = some ((), T1) ∧ PcM T1 n B (skipF B t (n - t)) := by
  have hn := b.1
  obtain ⟨g, T1, k1, k2, k3⟩ := l0_M b (n - t) t fuel T (by omega) (fuel_gt (by omega)) h9 hT
  have e0 : f_X12_take T = f_X12_take_b0 g T1 := k1
  rw [e0]
  have hle := skipF_le B (n - t) t
  have hno := skipF_no b (n - t) t (by omega)
  generalize skipF B t (n - t) = p at k2 hle hno ⊢
  have no1 : ¬ B p = 32 := fun h => hno ((kd1 _).mpr (.inl h))
  have no2 : ¬ B p = 10 := fun h => hno ((kd1 _).mpr (.inr h))
  have A : ∀ T2, gI T2 32 = nI p → TpM T2 n B → f_X12_at (gI T2 32) T2 = some (B p, T2) := fun T2 h1 h2 => by rw [h1]; exact at_M h2 b (by omega)
  unfold f_X12_take_b0
  rw [A T1 k2 k3, bnd_mk, if_neg no1, A T1 k2 k3, bnd_mk, if_neg no2]
  simp only [vlet_eq, k2]
  have hT2 : TpM (pJ (pI T1 31 (nI p)) 2 0) n B := k3.m rfl rfl
  have h32 : gI (pJ (pI T1 31 (nI p)) 2 0) 32 = nI p := k2
  generalize hgen : pJ (pI T1 31 (nI p)) 2 0 = T2 at hT2 h32 ⊢
  have h31 : gI T2 31 = nI p := by rw [← hgen]; rfl
  have hj : gJ T2 2 = 0 := by rw [← hgen]; rfl
  simp only [A T2 h32 hT2, bnd_mk, in_w (B p) 97 122 (lo := 97) (hi := 122) (by decide) (by decide), in_w (B p) 48 57 (lo := 48) (hi := 57) (by decide) (by decide), ite01]
  unfold PcM
  by_cases c2 : kd (B p) = 2
  · rw [if_pos ((kd2 _).mp c2)]
    have hp : p < n := by
      rcases Nat.lt_or_ge p n with h | h
      · exact h
      · rw [b.2.2 p h] at c2; exact absurd c2 (by decide)
    obtain ⟨T3, m1, m2, m3, m4, m5⟩ := l78_M b p (n - p) p fuel (pI T2 30 1) (by omega) (fuel_gt (by omega)) (by omega) h32 h31 (by rw [Nat.sub_self]; exact hj) (hT2.m rfl rfl)
    have eE : runF B 2 p (n - p) = endF n B p := by
      unfold endF
      rw [if_neg (by rw [c2]; decide), if_pos (.inl c2), c2, show n - p = (n - (p + 1)) + 1 by omega]
      show (if kd (B p) = 2 then _ else _) = _
      rw [if_pos c2]
    rw [eE] at m2 m5
    refine ⟨T3, m1, m3, ?_, ?_, fun _ => m5, fun h => absurd (c2.symm.trans h) (by decide)⟩
    · rw [m4]; unfold sortF; rw [if_pos c2]; rfl
    · rw [m2, if_neg (by rw [c2]; decide)]
  · rw [if_neg (fun h => c2 ((kd2 _).mpr h))]
    by_cases c3 : kd (B p) = 3
    · rw [if_pos ((kd3 _).mp c3)]
      have hp : p < n := by
        rcases Nat.lt_or_ge p n with h | h
        · exact h
        · rw [b.2.2 p h] at c3; exact absurd c3 (by decide)
      obtain ⟨T3, m1, m2, m3, m4, m5⟩ := l184_M b p (n - p) p fuel (pI T2 30 2) (by omega) (fuel_gt (by omega)) (by omega) h32 h31 (by rw [Nat.sub_self]; exact hj) (hT2.m rfl rfl)
      have eE : runF B 3 p (n - p) = endF n B p := by
        unfold endF
        rw [if_neg (by rw [c3]; decide), if_pos (.inr c3), c3, show n - p = (n - (p + 1)) + 1 by omega]
        show (if kd (B p) = 3 then _ else _) = _
        rw [if_pos c3]
      rw [eE] at m2 m5
      refine ⟨T3, m1, m3, ?_, ?_, fun h => absurd (c3.symm.trans h) (by decide), fun _ => m5⟩
      · rw [m4]; unfold sortF; rw [if_neg c2, if_pos c3]; rfl
      · rw [m2, if_neg (by rw [c3]; decide)]
    · rw [if_neg (fun h => c3 ((kd3 _).mpr h))]
      unfold f_X12_take_b297 f_X12_take_b310 sortF
      rw [if_neg c2, if_neg c3]
      have e4 : endF n B p = if kd (B p) = 0 then p else p + 1 := by
        unfold endF
        rw [if_neg (show ¬ (kd (B p) = 2 ∨ kd (B p) = 3) by rintro (r | r); exact c2 r; exact c3 r)]
      have e5 : (if kd (B p) = 0 then p + 1 else endF n B p) = p + 1 := by
        rw [e4]
        by_cases c0 : kd (B p) = 0
        · rw [if_pos c0]
        · rw [if_neg c0, if_neg c0]
      rw [e5]
      by_cases m1 : B p = -1
      · rw [if_pos m1, if_pos m1]
        refine ⟨_, rfl, h31, rfl, ?_, fun h => absurd h c2, fun h => absurd h c3⟩
        show gI T2 32 + 1 = _
        rw [h32, nI_1]
      · rw [if_neg m1, if_neg m1]
        by_cases m2 : B p = 59
        · rw [if_pos m2, if_pos m2]
          refine ⟨_, rfl, h31, rfl, ?_, fun h => absurd h c2, fun h => absurd h c3⟩
          show gI T2 32 + 1 = _
          rw [h32, nI_1]
        · rw [if_neg m2, if_neg m2]
          refine ⟨_, rfl, h31, rfl, ?_, fun h => absurd h c2, fun h => absurd h c3⟩
          show gI T2 32 + 1 = _
          rw [h32, nI_1]
