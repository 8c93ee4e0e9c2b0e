/-! ===== read: words ===== -/
def wdC (w : Nat) (j : Nat) : Int32 := sCh w (nI j)
def wdL (w : Nat) : Nat := lenS.getD w 0
def wcI (B : Nat → Int32) (p : Nat) : Nat → Int
  | 0 => 0
  | j + 1 => wcI B p j * 32 + ((B (p + j)).toInt - 96)
def Lets (B : Nat → Int32) (p j : Nat) : Prop := ∀ i, i < j → 97 ≤ (B (p + i)).toInt ∧ (B (p + i)).toInt ≤ 122
theorem wcI_b {B : Nat → Int32} {p : Nat} : ∀ j, Lets B p j → 0 ≤ wcI B p j ∧ wcI B p j < 32 ^ j
  | 0, _ => ⟨Int.le_refl _, by show (0 : Int) < 1; decide⟩
  | j + 1, h => by
    have ih := wcI_b j (fun i hi => h i (by omega))
    have hd := h j (by omega)
    unfold wcI
    rw [Int.pow_succ]
    omega
theorem pow6 {j : Nat} (h : j ≤ 6) : (32 : Int) ^ j ≤ 1073741824 := by
  have hs : j = 0 ∨ j = 1 ∨ j = 2 ∨ j = 3 ∨ j = 4 ∨ j = 5 ∨ j = 6 := by omega
  rcases hs with rfl | rfl | rfl | rfl | rfl | rfl | rfl <;> decide
theorem wcF_int {B : Nat → Int32} {p : Nat} : ∀ j, j ≤ 6 → Lets B p j → (wcF B p j).toInt = wcI B p j
  | 0, _, _ => rfl
  | j + 1, hj, h => by
    have ih := wcF_int j (by omega) (fun i hi => h i (by omega))
    have hd := h j (by omega)
    have hb := wcI_b j (fun i hi => h i (by omega))
    have hq := pow6 (show j ≤ 6 by omega)
    rw [wcF_succ, if_neg (by omega)]
    unfold wcI
    have e32 : (32 : Int64).toInt = 32 := rfl
    have e96 : (96 : Int64).toInt = 96 := rfl
    have m1 : (wcF B p j * 32).toInt = wcI B p j * 32 := by
      rw [mulL (by rw [e32, ih]; omega) (by rw [e32, ih]; omega), e32, ih]
    have m2 : (wcF B p j * 32 + (B (p + j)).toInt64).toInt = wcI B p j * 32 + (B (p + j)).toInt := by
      rw [addL (by rw [m1, wideI]; omega) (by rw [m1, wideI]; omega), m1, wideI]
    rw [subL (by rw [m2, e96]; omega) (by rw [m2, e96]; omega), m2, e96]
    omega
theorem wcI_inj {A B : Nat → Int32} {p q : Nat} : ∀ j k, Lets A p j → Lets B q k → wcI A p j = wcI B q k → j = k ∧ ∀ i, i < j → A (p + i) = B (q + i)
  | 0, 0, _, _, _ => ⟨rfl, fun i h => absurd h (Nat.not_lt_zero i)⟩
  | 0, k + 1, _, hB, h => by
    have h1 := wcI_b k (fun i hi => hB i (by omega))
    have h2 := hB k (by omega)
    unfold wcI at h; omega
  | j + 1, 0, hA, _, h => by
    have h1 := wcI_b j (fun i hi => hA i (by omega))
    have h2 := hA j (by omega)
    unfold wcI at h; omega
  | j + 1, k + 1, hA, hB, h => by
    have a2 := hA j (by omega)
    have b2 := hB k (by omega)
    unfold wcI at h
    have h1 : wcI A p j = wcI B q k := by omega
    have h2 : (A (p + j)).toInt = (B (q + k)).toInt := by omega
    obtain ⟨e, r⟩ := wcI_inj j k (fun i hi => hA i (by omega)) (fun i hi => hB i (by omega)) h1
    subst e
    refine ⟨rfl, fun i hi => ?_⟩
    by_cases hij : i = j
    · subst hij; exact eq_int.mpr h2
    · exact r i (by omega)
def WdOk (w : Nat) : Prop := w < 16 ∧ wdL w ≤ 6 ∧ ∀ i, i < wdL w → 97 ≤ (wdC w (0 + i)).toInt ∧ (wdC w (0 + i)).toInt ≤ 122
theorem wcF_wd {B : Nat → Int32} {p j w : Nat} (hw : WdOk w) (hB : Lets B p j) : wcF B p j = wcF (wdC w) 0 (wdL w) ↔ (j = wdL w ∧ ∀ i, i < wdL w → B (p + i) = wdC w i) := by
  have hW : Lets (wdC w) 0 (wdL w) := hw.2.2
  constructor
  · intro h
    by_cases h6 : j ≤ 6
    · have h1 := congrArg Int64.toInt h
      rw [wcF_int j h6 hB, wcF_int _ hw.2.1 hW] at h1
      obtain ⟨e, r⟩ := wcI_inj j _ hB hW h1
      refine ⟨e, fun i hi => ?_⟩
      have := r i (by omega)
      rw [Nat.zero_add] at this; exact this
    · exfalso
      have h1 := congrArg Int64.toInt h
      rw [wcF_int _ hw.2.1 hW] at h1
      obtain ⟨k, rfl⟩ : ∃ k, j = k + 1 := ⟨j - 1, by omega⟩
      rw [wcF_succ, if_pos (by omega)] at h1
      have h2 := wcI_b _ hW
      have e1 : (-1 : Int64).toInt = -1 := rfl
      omega
  · rintro ⟨rfl, h⟩
    refine eq_int64.mpr ?_
    have go : ∀ k, k ≤ wdL w → wcF B p k = wcF (wdC w) 0 k := by
      intro k
      induction k with
      | zero => intro _; rfl
      | succ k ih =>
        intro hk
        rw [wcF_succ, wcF_succ, ih (by omega), h k (by omega), Nat.zero_add]
    rw [go _ (Nat.le_refl _)]
theorem lets_of {n : Nat} {B : Nat → Int32} {p : Nat} (c2 : kd (B p) = 2) : Lets B p (endF n B p - p) := by
  intro i hi
  have e : endF n B p = runF B 2 (p + 1) (n - (p + 1)) := by
    unfold endF
    rw [if_neg (by rw [c2]; decide), if_pos (.inl c2), c2]
  rw [e] at hi
  have h : kd (B (p + i)) = 2 := by
    by_cases h0 : i = 0
    · subst h0; exact c2
    · exact runF_in B 2 (n - (p + 1)) (p + 1) (p + i) (by omega) (by omega)
  have h2 := (kd2 _).mp h
  exact ⟨le_int.mp h2.1, le_int.mp h2.2⟩
theorem isWord_C {n : Nat} {B : Nat → Int32} (b : BOk n B) {S : St} {p w : Nat} (hT : TpC S n B) (hP : PcC S n B p) (hp : p ≤ n) (hw : WdOk w) : ∃ r, f_X7_isWord w S = some (r, S) ∧ (r = 0 ∨ r = 1) ∧ (r = 1 ↔ kd (B p) = 2 ∧ wcF B p (endF n B p - p) = wcF (wdC w) 0 (wdL w)) := by
  have hn := b.1
  have hg := endF_ge hp b
  have lw : ltN w 16 = true := decide_eq_true hw.1
  have eL : ∀ S : St, f_J0_length_8abf5 w S = some (nI (wdL w), S) := by
    intro S; unfold f_J0_length_8abf5; rw [chk_of lw]; rfl
  have hw6 := hw.2.1
  have key : ∀ d j f, j + d = wdL w → d < f → ∃ r, f_X7_isWord_l28 w f (nI j, S) = some (r, S) ∧ (r = 0 ∨ r = 1) ∧ (r = 1 ↔ ∀ i, j ≤ i → i < wdL w → B (p + i) = wdC w i) := by
    intro d
    induction d with
    | zero =>
      intro j f hj hf
      obtain ⟨f, rfl⟩ : ∃ f1, f = f1 + 1 := ⟨f - 1, by omega⟩
      refine ⟨1, ?_, .inr rfl, fun _ i h1 h2 => by omega, fun _ => rfl⟩
      show f_X7_isWord_b28 (f_X7_isWord_l28 w f) w (nI j) S = _
      unfold f_X7_isWord_b28
      rw [chk_of lw, eL, bnd_mk, if_pos (nI_le (by omega) (by omega))]
    | succ d ih =>
      intro j f hj hf
      obtain ⟨f, rfl⟩ : ∃ f1, f = f1 + 1 := ⟨f - 1, by omega⟩
      have eC : f_J0_charAt_5068e w (nI j) S = some (wdC w j, S) := by
        unfold f_J0_charAt_5068e
        rw [chk_of lw, chk_of (show inb (nI j) (lenS.getD w 0) = true from inb_nI (show j < wdL w by omega) (show wdL w < 2 ^ 31 by omega))]
        rfl
      have E : f_X7_isWord_l28 w (f + 1) (nI j, S) = if B (p + j) = wdC w j then f_X7_isWord_l28 w f (nI (j + 1), S) else some (0, S) := by
        show f_X7_isWord_b28 (f_X7_isWord_l28 w f) w (nI j) S = _
        unfold f_X7_isWord_b28
        rw [chk_of lw, eL, bnd_mk, if_neg (nI_ge (by omega) (by omega)), hP.1, nI_add, at_C hT b (by omega), bnd_mk, chk_of lw, eC, bnd_mk, nI_1]
      by_cases q : B (p + j) = wdC w j
      · rw [E, if_pos q]
        obtain ⟨r, k1, k2, k3⟩ := ih (j + 1) f (by omega) (by omega)
        refine ⟨r, k1, k2, k3.trans ⟨fun h i h1 h2 => ?_, fun h i h1 h2 => h i (by omega) h2⟩⟩
        by_cases hij : i = j
        · subst hij; exact q
        · exact h i (by omega) h2
      · rw [E, if_neg q]
        exact ⟨0, rfl, .inl rfl, fun h => absurd h (by decide), fun h => absurd (h j (by omega) (by omega)) q⟩
  unfold f_X7_isWord f_X7_isWord_b0 f_X7_isWord_b24
  rw [hP.2.1]
  by_cases c2 : kd (B p) = 2
  · rw [if_pos c2, chk_of lw, eL, bnd_mk, hP.1, hP.2.2, pk_sub hg.1]
    have hl := lets_of (n := n) c2
    by_cases hlen : endF n B p - p = wdL w
    · rw [if_pos (by rw [hlen])]
      obtain ⟨r, k1, k2, k3⟩ := key (wdL w) 0 fuel (by omega) (fuel_gt (by omega))
      refine ⟨r, k1, k2, k3.trans ⟨fun h => ⟨c2, (wcF_wd hw hl).mpr ⟨hlen, fun i hi => h i (by omega) hi⟩⟩, fun h i _ hi => ((wcF_wd hw hl).mp h.2).2 i hi⟩⟩
    · rw [if_neg (fun h => hlen ((nI_eq (by omega) (by omega)).mp h))]
      exact ⟨0, rfl, .inl rfl, fun h => absurd h (by decide), fun h => absurd ((wcF_wd hw hl).mp h.2).1 hlen⟩
  · rw [if_neg c2]
    exact ⟨0, rfl, .inl rfl, fun h => absurd h (by decide), fun h => absurd h.1 c2⟩
theorem wd_all : ∀ w, w < 16 → wdL w ≤ 6 ∧ ∀ i, i < wdL w → 97 ≤ (wdC w (0 + i)).toInt ∧ (wdC w (0 + i)).toInt ≤ 122 := by decide
theorem wdOk {w : Nat} (h : w < 16) : WdOk w := ⟨h, wd_all w h⟩
theorem wordOf_M (T : St) : ∀ m, m < 13 → f_X12_wordOf (nI m) T = some (wcF (wdC m) 0 (wdL m), T) := by
  intro m hm
  have hs : m = 0 ∨ m = 1 ∨ m = 2 ∨ m = 3 ∨ m = 4 ∨ m = 5 ∨ m = 6 ∨ m = 7 ∨ m = 8 ∨ m = 9 ∨ m = 10 ∨ m = 11 ∨ m = 12 := by omega
  rcases hs with rfl | rfl | rfl | rfl | rfl | rfl | rfl | rfl | rfl | rfl | rfl | rfl | rfl <;> rfl
theorem voice_M (T : St) : f_X12_word 118 111 105 99 101 0 T = some (wcF (wdC 14) 0 (wdL 14), T) := rfl
theorem rank_M (T : St) : f_X12_word 114 97 110 107 0 0 T = some (wcF (wdC 15) 0 (wdL 15), T) := rfl
theorem wordOf_C (S : St) : ∀ m, m < 13 → f_X3_wordOf (nI m) S = some (m, S) := by
  intro m hm
  have hs : m = 0 ∨ m = 1 ∨ m = 2 ∨ m = 3 ∨ m = 4 ∨ m = 5 ∨ m = 6 ∨ m = 7 ∨ m = 8 ∨ m = 9 ∨ m = 10 ∨ m = 11 ∨ m = 12 := by omega
  rcases hs with rfl | rfl | rfl | rfl | rfl | rfl | rfl | rfl | rfl | rfl | rfl | rfl | rfl <;> rfl
/-- the name there: both find the same, or none -/
theorem name_both {n : Nat} {B : Nat → Int32} (b : BOk n B) {S T : St} {p : Nat} (hT : TpC S n B) (hP : PcC S n B p) (hp : p ≤ n) (hj : kd (B p) = 2 → gJ T 2 = wcF B p (endF n B p - p)) : ∃ r, f_X7_nameThere S = some (r, S) ∧ (kd (B p) = 2 → f_X12_named T = some (r, T)) ∧ (¬ kd (B p) = 2 → r = -1) ∧ (r = -1 ∨ ∃ m, m < 13 ∧ r = nI m ∧ kd (B p) = 2) := by
  have key : ∀ d m f, m + d = 13 → d < f → ∃ r, f_X7_nameThere_l2 f (nI m, S) = some (r, S) ∧ (kd (B p) = 2 → f_X12_named_l2 f (nI m, T) = some (r, T)) ∧ (¬ kd (B p) = 2 → r = -1) ∧ (r = -1 ∨ ∃ m, m < 13 ∧ r = nI m ∧ kd (B p) = 2) := by
    intro d
    induction d with
    | zero =>
      intro m f hm hf
      have e : m = 13 := by omega
      subst e
      obtain ⟨f, rfl⟩ : ∃ f1, f = f1 + 1 := ⟨f - 1, by omega⟩
      exact ⟨-1, rfl, fun _ => rfl, fun _ => rfl, .inl rfl⟩
    | succ d ih =>
      intro m f hm hf
      obtain ⟨f, rfl⟩ : ∃ f1, f = f1 + 1 := ⟨f - 1, by omega⟩
      have g13 : ¬ (13 : Int32) ≤ nI m := nI_ge (b := 13) (by omega) (by omega)
      obtain ⟨r, w1, w2, w3⟩ := isWord_C b hT hP hp (wdOk (show m < 16 by omega))
      have E1 : f_X7_nameThere_l2 (f + 1) (nI m, S) = if r = 0 then f_X7_nameThere_l2 f (nI (m + 1), S) else some (nI m, S) := by
        show f_X7_nameThere_b2 (f_X7_nameThere_l2 f) (nI m) S = _
        unfold f_X7_nameThere_b2
        rw [if_neg g13, wordOf_C S m (by omega), bnd_mk, w1, bnd_mk, nI_1]
      have E2 : f_X12_named_l2 (f + 1) (nI m, T) = if gJ T 2 = wcF (wdC m) 0 (wdL m) then some (nI m, T) else f_X12_named_l2 f (nI (m + 1), T) := by
        show f_X12_named_b2 (f_X12_named_l2 f) (nI m) T = _
        unfold f_X12_named_b2
        rw [if_neg g13, wordOf_M T m (by omega), bnd_mk, nI_1]
        by_cases q : gJ T 2 = wcF (wdC m) 0 (wdL m)
        · rw [if_pos q, if_pos (cmp_eq.mpr q)]
        · rw [if_neg q, if_neg (fun h => q (cmp_eq.mp h))]
      by_cases hr : r = 1
      · have h2 := w3.mp hr
        refine ⟨nI m, ?_, fun _ => ?_, fun h => absurd h2.1 h, .inr ⟨m, by omega, rfl, h2.1⟩⟩
        · rw [E1, if_neg (by rw [hr]; decide)]
        · rw [E2, if_pos ((hj h2.1).trans h2.2)]
      · have h0 : r = 0 := by
          rcases w2 with q | q
          · exact q
          · exact absurd q hr
        obtain ⟨r2, k1, k2, k3, k4⟩ := ih (m + 1) f (by omega) (by omega)
        refine ⟨r2, ?_, fun h2 => ?_, k3, k4⟩
        · rw [E1, if_pos h0]; exact k1
        · rw [E2, if_neg (fun q => hr (w3.mpr ⟨h2, (hj h2).symm.trans q⟩))]; exact k2 h2
  unfold f_X7_nameThere f_X7_nameThere_b0 f_X12_named f_X12_named_b0
  exact key 13 0 fuel (by omega) (fuel_gt (by decide))
