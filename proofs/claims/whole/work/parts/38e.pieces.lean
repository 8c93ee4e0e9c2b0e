/-! ===== read: pieces of the tape ===== -/
def kd (b : Int32) : Int32 := if b = -1 then 0 else if b = 32 then 1 else if b = 10 then 1 else if 97 ≤ b ∧ b ≤ 122 then 2 else if 48 ≤ b ∧ b ≤ 57 then 3 else 4
theorem kd1 (b : Int32) : kd b = 1 ↔ b = 32 ∨ b = 10 := by
  unfold kd
  by_cases h0 : b = -1
  · rw [if_pos h0]; subst h0; decide
  · rw [if_neg h0]
    by_cases h1 : b = 32
    · rw [if_pos h1]; exact ⟨fun _ => .inl h1, fun _ => rfl⟩
    · rw [if_neg h1]
      by_cases h2 : b = 10
      · rw [if_pos h2]; exact ⟨fun _ => .inr h2, fun _ => rfl⟩
      · rw [if_neg h2]
        refine ⟨fun h => ?_, fun h => ?_⟩
        · split at h
          · exact absurd h (by decide)
          · split at h
            · exact absurd h (by decide)
            · exact absurd h (by decide)
        · rcases h with h | h
          · exact absurd h h1
          · exact absurd h h2
theorem kd2 (b : Int32) : kd b = 2 ↔ 97 ≤ b ∧ b ≤ 122 := by
  unfold kd
  by_cases h0 : b = -1
  · rw [if_pos h0]; subst h0; decide
  · rw [if_neg h0]
    by_cases h1 : b = 32
    · rw [if_pos h1]; subst h1; decide
    · rw [if_neg h1]
      by_cases h2 : b = 10
      · rw [if_pos h2]; subst h2; decide
      · rw [if_neg h2]
        by_cases h3 : 97 ≤ b ∧ b ≤ 122
        · rw [if_pos h3]; exact ⟨fun _ => h3, fun _ => rfl⟩
        · rw [if_neg h3]
          refine ⟨fun h => ?_, fun h => absurd h h3⟩
          split at h
          · exact absurd h (by decide)
          · exact absurd h (by decide)
theorem kd3 (b : Int32) : kd b = 3 ↔ 48 ≤ b ∧ b ≤ 57 := by
  unfold kd
  by_cases h0 : b = -1
  · rw [if_pos h0]; subst h0; decide
  · rw [if_neg h0]
    by_cases h1 : b = 32
    · rw [if_pos h1]; subst h1; decide
    · rw [if_neg h1]
      by_cases h2 : b = 10
      · rw [if_pos h2]; subst h2; decide
      · rw [if_neg h2]
        by_cases h3 : 97 ≤ b ∧ b ≤ 122
        · rw [if_pos h3]
          refine ⟨fun h => absurd h (by decide), fun h => ?_⟩
          have a1 := le_int.mp h3.1
          have a2 := le_int.mp h.2
          have e1 : (97 : Int32).toInt = 97 := rfl
          have e2 : (57 : Int32).toInt = 57 := rfl
          omega
        · rw [if_neg h3]
          by_cases h4 : 48 ≤ b ∧ b ≤ 57
          · rw [if_pos h4]; exact ⟨fun _ => h4, fun _ => rfl⟩
          · rw [if_neg h4]; exact ⟨fun h => absurd h (by decide), fun h => absurd h h4⟩
theorem kd0 (b : Int32) : kd b = 0 ↔ b = -1 := by
  unfold kd
  by_cases h0 : b = -1
  · rw [if_pos h0]; exact ⟨fun _ => h0, fun _ => rfl⟩
  · rw [if_neg h0]
    refine ⟨fun h => ?_, fun h => absurd h h0⟩
    split at h
    · exact absurd h (by decide)
    · split at h
      · exact absurd h (by decide)
      · split at h
        · exact absurd h (by decide)
        · split at h
          · exact absurd h (by decide)
          · exact absurd h (by decide)
def TpC (S : St) (n : Nat) (B : Nat → Int32) : Prop := gI S 5 = nI n ∧ ∀ k, k < n → gA S 24 k &&& 255 = B k
def TpM (T : St) (n : Nat) (B : Nat → Int32) : Prop := gI T 29 = nI n ∧ ∀ k, k < n → gA T 64 k = B k
def BOk (n : Nat) (B : Nat → Int32) : Prop := n ≤ 400 ∧ (∀ k, k < n → 0 ≤ B k) ∧ ∀ k, n ≤ k → B k = -1
theorem TpC.c {S S1 : St} {n : Nat} {B : Nat → Int32} (h : TpC S n B) (a : gI S1 5 = gI S 5) (b : gA S1 24 = gA S 24) : TpC S1 n B := by
  unfold TpC; rw [a, b]; exact h
theorem TpM.m {T T1 : St} {n : Nat} {B : Nat → Int32} (h : TpM T n B) (a : gI T1 29 = gI T 29) (b : gA T1 64 = gA T 64) : TpM T1 n B := by
  unfold TpM; rw [a, b]; exact h
theorem at_C {S : St} {n : Nat} {B : Nat → Int32} (h : TpC S n B) (b : BOk n B) {k : Nat} (hk : k < 2 ^ 31) : f_X10_at (nI k) S = some (B k, S) := by
  unfold f_X10_at f_X10_at_b0 f_X10_at_b26 f_X10_at_b27
  rw [if_neg (nI_pos hk), h.1]
  by_cases q : n ≤ k
  · rw [if_pos (nI_le q hk), b.2.2 k q]
  · have := b.1
    rw [if_neg (nI_ge (by omega) (by omega)), chk_of (inb_nI (by omega) (by omega)), rd, nI_clamp hk, h.2 k (by omega)]
theorem at_M {T : St} {n : Nat} {B : Nat → Int32} (h : TpM T n B) (b : BOk n B) {k : Nat} (hk : k < 2 ^ 31) : f_X12_at (nI k) T = some (B k, T) := by
  unfold f_X12_at f_X12_at_b0 f_X12_at_b18
  rw [h.1]
  by_cases q : n ≤ k
  · rw [if_pos (nI_le q hk), b.2.2 k q]
  · have := b.1
    rw [if_neg (nI_ge (by omega) (by omega)), chk_of (inb_nI (by omega) (by omega)), rd, nI_clamp hk, h.2 k (by omega)]
theorem kind_C {S : St} {n : Nat} {B : Nat → Int32} (h : TpC S n B) (b : BOk n B) {k : Nat} (hk : k < 2 ^ 31) : f_X7_kindAt (nI k) S = some (kd (B k), S) := by
  unfold f_X7_kindAt f_X7_kindAt_b0 f_X7_kindAt_b25 f_X7_kindAt_b56 kd
  rw [at_C h b hk, bnd_mk]
  simp only [isWithin_eq, bnd_mk, ite01]
  split
  · rfl
  · split
    · rfl
    · split
      · rfl
      · split
        · rfl
        · split <;> rfl
def skipF (B : Nat → Int32) (i : Nat) : Nat → Nat
  | 0 => i
  | d + 1 => if kd (B i) = 1 then skipF B (i + 1) d else i
def runF (B : Nat → Int32) (q : Int32) (i : Nat) : Nat → Nat
  | 0 => i
  | d + 1 => if kd (B i) = q then runF B q (i + 1) d else i
theorem skipF_le (B : Nat → Int32) : ∀ d i, i ≤ skipF B i d ∧ skipF B i d ≤ i + d
  | 0, i => ⟨Nat.le_refl _, Nat.le_refl _⟩
  | d + 1, i => by
    have := skipF_le B d (i + 1)
    unfold skipF; split
    · omega
    · omega
theorem runF_le (B : Nat → Int32) (q : Int32) : ∀ d i, i ≤ runF B q i d ∧ runF B q i d ≤ i + d
  | 0, i => ⟨Nat.le_refl _, Nat.le_refl _⟩
  | d + 1, i => by
    have := runF_le B q d (i + 1)
    unfold runF; split
    · omega
    · omega
theorem skipF_no {n : Nat} {B : Nat → Int32} (b : BOk n B) : ∀ d i, i + d = n → ¬ kd (B (skipF B i d)) = 1
  | 0, i, h => by
    unfold skipF
    rw [b.2.2 i (by omega)]; decide
  | d + 1, i, h => by
    unfold skipF
    by_cases q : kd (B i) = 1
    · rw [if_pos q]; exact skipF_no b d (i + 1) (by omega)
    · rw [if_neg q]; exact q
theorem runF_in (B : Nat → Int32) (q : Int32) : ∀ d i k, i ≤ k → k < runF B q i d → kd (B k) = q
  | 0, i, k, h1, h2 => by unfold runF at h2; omega
  | d + 1, i, k, h1, h2 => by
    unfold runF at h2
    by_cases h : kd (B i) = q
    · rw [if_pos h] at h2
      by_cases e : k = i
      · subst e; exact h
      · exact runF_in B q d (i + 1) k (by omega) h2
    · rw [if_neg h] at h2; omega
theorem l8_C {n : Nat} {B : Nat → Int32} (b : BOk n B) : ∀ d i f S, i + d = n → d < f → gI S 8 = nI i → TpC S n B → ∃ S1, f_X7_takePiece_l8 f S = f_X7_takePiece_b44 S1 ∧ gI S1 8 = nI (skipF B i d) ∧ TpC S1 n B := by
  intro d
  have hn := b.1
  induction d with
  | zero =>
    intro i f S hi hf h8 hT
    obtain ⟨f, rfl⟩ : ∃ f1, f = f1 + 1 := ⟨f - 1, by omega⟩
    refine ⟨S, ?_, h8, hT⟩
    show f_X7_takePiece_b8 (f_X7_takePiece_l8 f) S = _
    unfold f_X7_takePiece_b8
    rw [hT.1, h8, if_pos (nI_le (by omega) (by omega))]
  | succ d ih =>
    intro i f S hi hf h8 hT
    obtain ⟨f, rfl⟩ : ∃ f1, f = f1 + 1 := ⟨f - 1, by omega⟩
    have E : f_X7_takePiece_l8 (f + 1) S = if kd (B i) = 1 then f_X7_takePiece_l8 f (pI S 8 (nI (i + 1))) else f_X7_takePiece_b44 S := by
      show f_X7_takePiece_b8 (f_X7_takePiece_l8 f) S = _
      unfold f_X7_takePiece_b8
      rw [hT.1, h8, if_neg (nI_ge (by omega) (by omega)), kind_C hT b (by omega), bnd_mk, vlet_eq, h8, nI_1]
    unfold skipF
    by_cases q : kd (B i) = 1
    · rw [E, if_pos q, if_pos q]
      exact ih (i + 1) f _ (by omega) (by omega) rfl (hT.c rfl rfl)
    · rw [E, if_neg q, if_neg q]
      exact ⟨S, rfl, h8, hT⟩
theorem l97_C {n : Nat} {B : Nat → Int32} (b : BOk n B) (q : Int32) : ∀ d i f S, i + d = n → d < f → gI S 9 = nI i → gI S 10 = q → TpC S n B → ∃ S1, f_X7_takePiece_l97 f S = some ((), S1) ∧ gI S1 9 = nI (runF B q i d) ∧ gI S1 8 = gI S 8 ∧ gI S1 10 = q := by
  intro d
  have hn := b.1
  induction d with
  | zero =>
    intro i f S hi hf h9 h10 hT
    obtain ⟨f, rfl⟩ : ∃ f1, f = f1 + 1 := ⟨f - 1, by omega⟩
    refine ⟨S, ?_, h9, rfl, h10⟩
    show f_X7_takePiece_b97 (f_X7_takePiece_l97 f) S = _
    unfold f_X7_takePiece_b97 f_X7_takePiece_b136
    rw [hT.1, h9, if_pos (nI_le (by omega) (by omega))]
  | succ d ih =>
    intro i f S hi hf h9 h10 hT
    obtain ⟨f, rfl⟩ : ∃ f1, f = f1 + 1 := ⟨f - 1, by omega⟩
    have E : f_X7_takePiece_l97 (f + 1) S = if kd (B i) = q then f_X7_takePiece_l97 f (pI S 9 (nI (i + 1))) else some ((), S) := by
      show f_X7_takePiece_b97 (f_X7_takePiece_l97 f) S = _
      unfold f_X7_takePiece_b97 f_X7_takePiece_b136
      rw [hT.1, h9, if_neg (nI_ge (by omega) (by omega)), kind_C hT b (by omega), bnd_mk, vlet_eq, h9, nI_1, h10]
    unfold runF
    by_cases z : kd (B i) = q
    · rw [E, if_pos z, if_pos z]
      obtain ⟨S1, k1, k2, k3, k4⟩ := ih (i + 1) f (pI S 9 (nI (i + 1))) (by omega) (by omega) rfl h10 (hT.c rfl rfl)
      exact ⟨S1, k1, k2, k3, k4⟩
    · rw [E, if_neg z, if_neg z]
      exact ⟨S, rfl, h9, rfl, h10⟩
/-- where a piece ends -/
def endF (n : Nat) (B : Nat → Int32) (f : Nat) : Nat := if kd (B f) = 0 then f else if kd (B f) = 2 ∨ kd (B f) = 3 then runF B (kd (B f)) (f + 1) (n - (f + 1)) else f + 1
theorem take_C {n : Nat} {B : Nat → Int32} (b : BOk n B) {S : St} {t : Nat} (ht : t ≤ n) (h9 : gI S 9 = nI t) (hT : TpC S n B) : ∃ S1, f_X7_takePiece S = some ((), S1) ∧ gI S1 8 = nI (skipF B t (n - t)) ∧ gI S1 10 = kd (B (skipF B t (n - t))) ∧ gI S1 9 = nI (endF n B (skipF B t (n - t))) := by
  have hn := b.1
  obtain ⟨S1, k1, k2, k3⟩ := l8_C b (n - t) t fuel (pI S 8 (nI t)) (by omega) (fuel_gt (by omega)) rfl (hT.c rfl rfl)
  have e0 : f_X7_takePiece S = f_X7_takePiece_b44 S1 := by
    unfold f_X7_takePiece f_X7_takePiece_b0
    rw [vlet_eq, h9]; exact k1
  rw [e0]
  have hle := skipF_le B (n - t) t
  generalize skipF B t (n - t) = p at k2 hle ⊢
  unfold f_X7_takePiece_b44 f_X7_takePiece_b77
  rw [k2, kind_C k3 b (by omega), bnd_mk, vlet_eq, gI_pI, if_pos rfl]
  unfold endF
  by_cases c0 : kd (B p) = 0
  · rw [if_pos c0, if_pos c0, vlet_eq]
    simp only [gI_pI, reduceIte, Nat.reduceEqDiff, k2]
    rw [if_neg (by rw [c0]; decide), if_neg (by rw [c0]; decide)]
    refine ⟨_, rfl, ?_, ?_, ?_⟩
    · simp only [gI_pI, reduceIte, Nat.reduceEqDiff]; exact k2
    · simp only [gI_pI, reduceIte, Nat.reduceEqDiff]
    · simp only [gI_pI, reduceIte, Nat.reduceEqDiff]
  · have hp : p < n := by
      rcases Nat.lt_or_ge p n with h | h
      · exact h
      · exact absurd (by rw [b.2.2 p h]; rfl) c0
    rw [if_neg c0, if_neg c0, vlet_eq]
    simp only [gI_pI, reduceIte, Nat.reduceEqDiff, k2, nI_1]
    obtain ⟨S2, m1, m2, m3, m4⟩ := l97_C b (kd (B p)) (n - (p + 1)) (p + 1) fuel (pI (pI S1 10 (kd (B p))) 9 (nI (p + 1))) (by omega) (fuel_gt (by omega)) rfl rfl (k3.c rfl rfl)
    have e8 : gI S2 8 = nI p := m3.trans (by simp only [gI_pI, reduceIte, Nat.reduceEqDiff]; exact k2)
    by_cases c2 : kd (B p) = 2
    · rw [if_pos c2, if_pos (.inl c2)]
      exact ⟨S2, m1, e8, m4, m2⟩
    · rw [if_neg c2]
      by_cases c3 : kd (B p) = 3
      · rw [if_pos c3, if_pos (.inr c3)]
        exact ⟨S2, m1, e8, m4, m2⟩
      · rw [if_neg c3, if_neg (by rintro (r | r); exact c2 r; exact c3 r)]
        refine ⟨_, rfl, ?_, ?_, ?_⟩
        · simp only [gI_pI, reduceIte, Nat.reduceEqDiff]; exact k2
        · simp only [gI_pI, reduceIte, Nat.reduceEqDiff]
        · simp only [gI_pI, reduceIte, Nat.reduceEqDiff]
/-! the reference's pieces -/
def wcF (B : Nat → Int32) (p : Nat) : Nat → Int64
  | 0 => 0
  | j + 1 => if 6 ≤ j then -1 else wcF B p j * 32 + (B (p + j)).toInt64 - 96
def ncF (B : Nat → Int32) (p : Nat) : Nat → Int64
  | 0 => 0
  | j + 1 => if ncF B p j ≤ 100000 then ncF B p j * 10 + (B (p + j)).toInt64 - 48 else ncF B p j
theorem wcF_succ (B : Nat → Int32) (p j : Nat) : wcF B p (j + 1) = if 6 ≤ j then -1 else wcF B p j * 32 + (B (p + j)).toInt64 - 96 := rfl
theorem ncF_succ (B : Nat → Int32) (p j : Nat) : ncF B p (j + 1) = if ncF B p j ≤ 100000 then ncF B p j * 10 + (B (p + j)).toInt64 - 48 else ncF B p j := rfl
theorem cmp_le {a b : Int64} : lg_cmp a b ≤ 0 ↔ a ≤ b := by
  have h := @cmp_gt a b
  rw [← Int32.not_lt, h, Int64.not_lt]
theorem l78_M {n : Nat} {B : Nat → Int32} (b : BOk n B) (p : Nat) : ∀ d i f T, i + d = n → d < f → p ≤ i → gI T 32 = nI i → gI T 31 = nI p → gJ T 2 = wcF B p (i - p) → TpM T n B → ∃ T1, f_X12_take_l78 f T = some ((), T1) ∧ gI T1 32 = nI (runF B 2 i d) ∧ gI T1 31 = nI p ∧ gI T1 30 = gI T 30 ∧ gJ T1 2 = wcF B p (runF B 2 i d - p) := by
  intro d
  have hn := b.1
  have E : ∀ i f T, i ≤ n → p ≤ i → gI T 32 = nI i → gI T 31 = nI p → gJ T 2 = wcF B p (i - p) → TpM T n B → f_X12_take_l78 (f + 1) T = if kd (B i) = 2 then f_X12_take_l78 f (pI (pJ T 2 (wcF B p (i - p + 1))) 32 (nI (i + 1))) else some ((), T) := by
    intro i f T hi hp h32 h31 hj hT
    show f_X12_take_b78 (f_X12_take_l78 f) T = _
    unfold f_X12_take_b78 f_X12_take_b142 f_X12_take_b310
    simp only [h32, at_M hT b (show i < 2 ^ 31 by omega), bnd_mk, in_w (B i) 97 122 (lo := 97) (hi := 122) (by decide) (by decide), ite01, h31, pk_sub hp, vlet_eq, gI_pJ, nI_1, hj]
    by_cases q : kd (B i) = 2
    · rw [if_pos q, if_pos ((kd2 _).mp q)]
      rw [wcF_succ, show p + (i - p) = i by omega]
      by_cases q6 : 6 ≤ i - p
      · have g6 : (6 : Int32) ≤ nI (i - p) := nI_le (a := 6) q6 (by omega)
        rw [if_pos g6, if_pos q6]
      · have g6 : ¬ (6 : Int32) ≤ nI (i - p) := nI_ge (b := 6) (by omega) (by omega)
        rw [if_neg g6, if_neg q6]
    · rw [if_neg q, if_neg (fun r => q ((kd2 _).mpr r))]
  induction d with
  | zero =>
    intro i f T hi hf hp h32 h31 hj hT
    obtain ⟨f, rfl⟩ : ∃ f1, f = f1 + 1 := ⟨f - 1, by omega⟩
    refine ⟨T, ?_, h32, h31, rfl, hj⟩
    rw [E i f T (by omega) hp h32 h31 hj hT, if_neg (by rw [b.2.2 i (by omega)]; decide)]
  | succ d ih =>
    intro i f T hi hf hp h32 h31 hj hT
    obtain ⟨f, rfl⟩ : ∃ f1, f = f1 + 1 := ⟨f - 1, by omega⟩
    rw [E i f T (by omega) hp h32 h31 hj hT]
    unfold runF
    by_cases q : kd (B i) = 2
    · rw [if_pos q, if_pos q]
      obtain ⟨T1, k1, k2, k3, k4, k5⟩ := ih (i + 1) f (pI (pJ T 2 (wcF B p (i - p + 1))) 32 (nI (i + 1))) (by omega) (by omega) (by omega) rfl h31 (by rw [show i + 1 - p = i - p + 1 by omega]; rfl) (hT.m rfl rfl)
      exact ⟨T1, k1, k2, k3, k4, k5⟩
    · rw [if_neg q, if_neg q]
      exact ⟨T, rfl, h32, h31, rfl, hj⟩
theorem l184_M {n : Nat} {B : Nat → Int32} (b : BOk n B) (p : Nat) : ∀ d i f T, i + d = n → d < f → p ≤ i → gI T 32 = nI i → gI T 31 = nI p → gJ T 2 = ncF B p (i - p) → TpM T n B → ∃ T1, f_X12_take_l184 f T = some ((), T1) ∧ gI T1 32 = nI (runF B 3 i d) ∧ gI T1 31 = nI p ∧ gI T1 30 = gI T 30 ∧ gJ T1 2 = ncF B p (runF B 3 i d - p) := by
  intro d
  have hn := b.1
  have E : ∀ i f T, i ≤ n → p ≤ i → gI T 32 = nI i → gI T 31 = nI p → gJ T 2 = ncF B p (i - p) → TpM T n B → f_X12_take_l184 (f + 1) T = if kd (B i) = 3 then f_X12_take_l184 f (pI (pJ T 2 (ncF B p (i - p + 1))) 32 (nI (i + 1))) else some ((), T) := by
    intro i f T hi hp h32 h31 hj hT
    show f_X12_take_b184 (f_X12_take_l184 f) T = _
    unfold f_X12_take_b184 f_X12_take_b246 f_X12_take_b310
    simp only [h32, at_M hT b (show i < 2 ^ 31 by omega), bnd_mk, in_w (B i) 48 57 (lo := 48) (hi := 57) (by decide) (by decide), ite01, vlet_eq, gI_pJ, nI_1, hj]
    by_cases q : kd (B i) = 3
    · rw [if_pos q, if_pos ((kd3 _).mp q)]
      rw [ncF_succ, show p + (i - p) = i by omega]
      by_cases q6 : ncF B p (i - p) ≤ 100000
      · rw [if_pos (cmp_le.mpr q6), if_pos q6]
      · rw [if_neg (fun r => q6 (cmp_le.mp r)), if_neg q6]
    · rw [if_neg q, if_neg (fun r => q ((kd3 _).mpr r))]
  induction d with
  | zero =>
    intro i f T hi hf hp h32 h31 hj hT
    obtain ⟨f, rfl⟩ : ∃ f1, f = f1 + 1 := ⟨f - 1, by omega⟩
    refine ⟨T, ?_, h32, h31, rfl, hj⟩
    rw [E i f T (by omega) hp h32 h31 hj hT, if_neg (by rw [b.2.2 i (by omega)]; decide)]
  | succ d ih =>
    intro i f T hi hf hp h32 h31 hj hT
    obtain ⟨f, rfl⟩ : ∃ f1, f = f1 + 1 := ⟨f - 1, by omega⟩
    rw [E i f T (by omega) hp h32 h31 hj hT]
    unfold runF
    by_cases q : kd (B i) = 3
    · rw [if_pos q, if_pos q]
      obtain ⟨T1, k1, k2, k3, k4, k5⟩ := ih (i + 1) f (pI (pJ T 2 (ncF B p (i - p + 1))) 32 (nI (i + 1))) (by omega) (by omega) (by omega) rfl h31 (by rw [show i + 1 - p = i - p + 1 by omega]; rfl) (hT.m rfl rfl)
      exact ⟨T1, k1, k2, k3, k4, k5⟩
    · rw [if_neg q, if_neg q]
      exact ⟨T, rfl, h32, h31, rfl, hj⟩
