/-! ===== pure words: what is read behind what is written ===== -/
theorem gI_pI (S : St) (k j : Nat) (v : Int32) : gI (pI S k v) j = if j = k then v else gI S j := rfl
theorem gI_pA (S : St) (k j : Nat) (v : Nat → Int32) : gI (pA S k v) j = gI S j := rfl
theorem gI_pL (S : St) (k j : Nat) (v : Nat → Int64) : gI (pL S k v) j = gI S j := rfl
theorem gI_pR (S : St) (k j : Nat) (v : Nat) : gI (pR S k v) j = gI S j := rfl
theorem gI_pJ (S : St) (k j : Nat) (v : Int64) : gI (pJ S k v) j = gI S j := rfl
theorem gA_pI (S : St) (k j : Nat) (v : Int32) : gA (pI S k v) j = gA S j := rfl
theorem gA_pA (S : St) (k j : Nat) (v : Nat → Int32) : gA (pA S k v) j = if j = k then v else gA S j := rfl
theorem gA_pL (S : St) (k j : Nat) (v : Nat → Int64) : gA (pL S k v) j = gA S j := rfl
theorem gA_pR (S : St) (k j : Nat) (v : Nat) : gA (pR S k v) j = gA S j := rfl
theorem gA_pJ (S : St) (k j : Nat) (v : Int64) : gA (pJ S k v) j = gA S j := rfl
theorem gL_pI (S : St) (k j : Nat) (v : Int32) : gL (pI S k v) j = gL S j := rfl
theorem gL_pA (S : St) (k j : Nat) (v : Nat → Int32) : gL (pA S k v) j = gL S j := rfl
theorem gL_pL (S : St) (k j : Nat) (v : Nat → Int64) : gL (pL S k v) j = if j = k then v else gL S j := rfl
theorem gL_pR (S : St) (k j : Nat) (v : Nat) : gL (pR S k v) j = gL S j := rfl
theorem gL_pJ (S : St) (k j : Nat) (v : Int64) : gL (pJ S k v) j = gL S j := rfl
theorem gR_pI (S : St) (k j : Nat) (v : Int32) : gR (pI S k v) j = gR S j := rfl
theorem gR_pA (S : St) (k j : Nat) (v : Nat → Int32) : gR (pA S k v) j = gR S j := rfl
theorem gR_pL (S : St) (k j : Nat) (v : Nat → Int64) : gR (pL S k v) j = gR S j := rfl
theorem gR_pR (S : St) (k j : Nat) (v : Nat) : gR (pR S k v) j = if j = k then v else gR S j := rfl
theorem gR_pJ (S : St) (k j : Nat) (v : Int64) : gR (pJ S k v) j = gR S j := rfl
theorem gJ_pI (S : St) (k j : Nat) (v : Int32) : gJ (pI S k v) j = gJ S j := rfl
theorem gJ_pA (S : St) (k j : Nat) (v : Nat → Int32) : gJ (pA S k v) j = gJ S j := rfl
theorem gJ_pL (S : St) (k j : Nat) (v : Nat → Int64) : gJ (pL S k v) j = gJ S j := rfl
theorem gJ_pR (S : St) (k j : Nat) (v : Nat) : gJ (pR S k v) j = gJ S j := rfl
theorem gJ_pJ (S : St) (k j : Nat) (v : Int64) : gJ (pJ S k v) j = if j = k then v else gJ S j := rfl
theorem gI_wr (S : St) (k j : Nat) (i v : Int32) : gI (wr S k i v) j = gI S j := rfl
theorem gA_wr (S : St) (k j : Nat) (i v : Int32) : gA (wr S k i v) j = if j = k then upd (gA S k) i.toNatClampNeg v else gA S j := rfl
theorem gL_wr (S : St) (k j : Nat) (i v : Int32) : gL (wr S k i v) j = gL S j := rfl
theorem gR_wr (S : St) (k j : Nat) (i v : Int32) : gR (wr S k i v) j = gR S j := rfl
theorem gJ_wr (S : St) (k j : Nat) (i v : Int32) : gJ (wr S k i v) j = gJ S j := rfl
theorem rd_nI (S : St) (k n : Nat) (h : n < 2 ^ 31) : rd S k (nI n) = gA S k n := by unfold rd; rw [nI_clamp h]
theorem upd_at (f : Nat → Int32) (k j : Nat) (v : Int32) : upd f k v j = if j = k then v else f j := rfl
theorem chk_true {α : Type} (o : Option α) : chk true o = o := rfl
theorem chk_of {α : Type} {t : Bool} {o : Option α} (h : t = true) : chk t o = o := by rw [h]; rfl
theorem bnd_mk {α β : Type} (a : α) (S : St) (f : α → St → Option β) : bnd (some (a, S)) f = f a S := rfl
theorem bnd_eq {α β : Type} {o : Option (α × St)} {a : α} {S : St} {f : α → St → Option β} (h : o = some (a, S)) : bnd o f = f a S := by rw [h]; rfl
theorem vlet_eq {α β : Type} (a : α) (f : α → β) : vlet a f = f a := rfl
theorem inb_nI {k n : Nat} (h : k < n) (hn : n < 2 ^ 31) : inb (nI k) n = true := decide_eq_true (vp_in_nI h hn)
theorem inb_lit {i : Int32} {n : Nat} (h : vp_in i n) : inb i n = true := decide_eq_true h
theorem inb_int {i : Int32} {n : Nat} (h1 : 0 ≤ i.toInt) (h2 : i.toInt < n) : inb i n = true := decide_eq_true (vp_in_iff.mpr ⟨h1, h2⟩)
theorem fuel_eq : fuel = 999999 + 1 := rfl
theorem loopN_succ {σ ρ : Type} (body : (σ → Option ρ) → σ → Option ρ) (n : Nat) (s : σ) : loopN body (n + 1) s = body (loopN body n) s := rfl
/-- a loop that comes to its end: what it answers -/
theorem loop_run {σ ρ : Type} {body : (σ → Option ρ) → σ → Option ρ} (μ : σ → Nat) (I : σ → Prop) (res : σ → Option ρ) (hs : ∀ (rec : σ → Option ρ) (s : σ), I s → (∀ s1, I s1 → μ s1 < μ s → rec s1 = res s1) → body rec s = res s) : ∀ (n : Nat) (s : σ), I s → μ s < n → loopN body n s = res s
  | 0, _, _, h => absurd h (Nat.not_lt_zero _)
  | n + 1, s, hI, h => hs (loopN body n) s hI (fun s1 h1 h2 => loop_run μ I res hs n s1 h1 (by omega))
/-- a loop that comes to its end: that it answers, and what holds of it -/
theorem loop_post {σ ρ : Type} {body : (σ → Option ρ) → σ → Option ρ} (μ : σ → Nat) (I : σ → Prop) (P : σ → ρ → Prop) (hs : ∀ (rec : σ → Option ρ) (s : σ), I s → (∀ s1, I s1 → μ s1 < μ s → ∃ r, rec s1 = some r ∧ P s1 r) → ∃ r, body rec s = some r ∧ P s r) : ∀ (n : Nat) (s : σ), I s → μ s < n → ∃ r, loopN body n s = some r ∧ P s r
  | 0, _, _, h => absurd h (Nat.not_lt_zero _)
  | n + 1, s, hI, h => hs (loopN body n) s hI (fun s1 h1 h2 => loop_post μ I P hs n s1 h1 (by omega))
/-! ints -/
theorem iz (n : Nat) : (OfNat.ofNat n : Int32) = nI n := rfl
theorem le_int {a b : Int32} : a ≤ b ↔ a.toInt ≤ b.toInt := Int32.le_iff_toInt_le
theorem lt_int {a b : Int32} : a < b ↔ a.toInt < b.toInt := Int32.lt_iff_toInt_lt
theorem eq_int {a b : Int32} : a = b ↔ a.toInt = b.toInt := ⟨fun h => by rw [h], fun h => Int32.toInt_inj.mp h⟩
theorem le_int64 {a b : Int64} : a ≤ b ↔ a.toInt ≤ b.toInt := Int64.le_iff_toInt_le
theorem lt_int64 {a b : Int64} : a < b ↔ a.toInt < b.toInt := Int64.lt_iff_toInt_lt
theorem eq_int64 {a b : Int64} : a = b ↔ a.toInt = b.toInt := ⟨fun h => by rw [h], fun h => Int64.toInt_inj.mp h⟩
theorem rngI (x : Int32) : -2147483648 ≤ x.toInt ∧ x.toInt < 2147483648 := ⟨Int32.le_toInt x, Int32.toInt_lt x⟩
theorem rngL (x : Int64) : -9223372036854775808 ≤ x.toInt ∧ x.toInt < 9223372036854775808 := ⟨Int64.le_toInt x, Int64.toInt_lt x⟩
theorem bm32 {z : Int} (h1 : -2147483648 ≤ z) (h2 : z < 2147483648) : z.bmod (2 ^ 32) = z := by
  rw [Int.bmod_def]; simp only [Nat.reducePow]; omega
theorem bm64 {z : Int} (h1 : -9223372036854775808 ≤ z) (h2 : z < 9223372036854775808) : z.bmod (2 ^ 64) = z := by
  rw [Int.bmod_def]; simp only [Nat.reducePow]; omega
theorem addI {x y : Int32} (h1 : -2147483648 ≤ x.toInt + y.toInt) (h2 : x.toInt + y.toInt < 2147483648) : (x + y).toInt = x.toInt + y.toInt := by rw [Int32.toInt_add, bm32 h1 h2]
theorem subI {x y : Int32} (h1 : -2147483648 ≤ x.toInt - y.toInt) (h2 : x.toInt - y.toInt < 2147483648) : (x - y).toInt = x.toInt - y.toInt := by rw [Int32.toInt_sub, bm32 h1 h2]
theorem mulI {x y : Int32} (h1 : -2147483648 ≤ x.toInt * y.toInt) (h2 : x.toInt * y.toInt < 2147483648) : (x * y).toInt = x.toInt * y.toInt := by rw [Int32.toInt_mul, bm32 h1 h2]
theorem addL {x y : Int64} (h1 : -9223372036854775808 ≤ x.toInt + y.toInt) (h2 : x.toInt + y.toInt < 9223372036854775808) : (x + y).toInt = x.toInt + y.toInt := by rw [Int64.toInt_add, bm64 h1 h2]
theorem subL {x y : Int64} (h1 : -9223372036854775808 ≤ x.toInt - y.toInt) (h2 : x.toInt - y.toInt < 9223372036854775808) : (x - y).toInt = x.toInt - y.toInt := by rw [Int64.toInt_sub, bm64 h1 h2]
theorem mulL {x y : Int64} (h1 : -9223372036854775808 ≤ x.toInt * y.toInt) (h2 : x.toInt * y.toInt < 9223372036854775808) : (x * y).toInt = x.toInt * y.toInt := by rw [Int64.toInt_mul, bm64 h1 h2]
theorem wideI (x : Int32) : x.toInt64.toInt = x.toInt := Int32.toInt_toInt64 x
theorem wide_le {a b : Int32} : a.toInt64 ≤ b.toInt64 ↔ a ≤ b := by rw [le_int64, le_int, wideI, wideI]
theorem wide_lt {a b : Int32} : a.toInt64 < b.toInt64 ↔ a < b := by rw [lt_int64, lt_int, wideI, wideI]
theorem wide_eq {a b : Int32} : a.toInt64 = b.toInt64 ↔ a = b := by rw [eq_int64, eq_int, wideI, wideI]
theorem cmp_lt {a b : Int64} : lg_cmp a b < 0 ↔ a < b := by
  unfold lg_cmp
  have h := @Int64.lt_iff_toInt_lt a b
  have h2 := @Int64.lt_iff_toInt_lt b a
  have h3 := @eq_int64 a b
  split
  · constructor
    · intro q; exact absurd q (by decide)
    · intro q; rename_i g; have : b < a := g; rw [h2] at this; rw [h] at q; omega
  · rename_i g1
    split
    · constructor
      · intro q; exact absurd q (by decide)
      · intro q; rename_i g; subst g; rw [h] at q; omega
    · rename_i g2
      constructor
      · intro _; have g1 : ¬ b < a := g1; rw [h2] at g1; rw [h3] at g2; rw [h]; omega
      · intro _; decide
theorem cmp_gt {a b : Int64} : 0 < lg_cmp a b ↔ b < a := by
  unfold lg_cmp
  split
  · rename_i g; exact ⟨fun _ => g, fun _ => by decide⟩
  · rename_i g
    split
    · exact ⟨fun q => absurd q (by decide), fun q => absurd q g⟩
    · exact ⟨fun q => absurd q (by decide), fun q => absurd q g⟩
theorem cmp_eq {a b : Int64} : lg_cmp a b = 0 ↔ a = b := by
  unfold lg_cmp
  split
  · rename_i g
    have g : b < a := g
    exact ⟨fun q => absurd q (by decide), fun q => by subst q; rw [lt_int64] at g; omega⟩
  · split
    · rename_i g; exact ⟨fun _ => g, fun _ => rfl⟩
    · rename_i g; exact ⟨fun q => absurd q (by decide), fun q => absurd q g⟩
theorem cmp_ge {a b : Int64} : 0 ≤ lg_cmp a b ↔ b ≤ a := by
  have h := @cmp_lt a b
  rw [← Int32.not_lt, h, Int64.not_lt]
theorem isWithin_eq (a b c : Int32) (S : St) : f_X11_isWithin a b c S = some (if b ≤ a ∧ a ≤ c then 1 else 0, S) := by
  unfold f_X11_isWithin f_X11_isWithin_b0 f_X11_isWithin_b14 f_X11_isWithin_b15
  by_cases h1 : a < b
  · rw [if_pos h1, if_neg (fun h => Int32.not_le.mpr h1 h.1)]; rfl
  · rw [if_neg h1]
    by_cases h2 : c < a
    · rw [if_pos h2, if_neg (fun h => Int32.not_le.mpr h2 h.2)]; rfl
    · rw [if_neg h2, if_pos ⟨Int32.not_lt.mp h1, Int32.not_lt.mp h2⟩]; rfl
theorem in_eq (a b c : Int64) (S : St) : f_X12_in a b c S = some (if b ≤ a ∧ a ≤ c then 1 else 0, S) := by
  unfold f_X12_in f_X12_in_b0 f_X12_in_b17 f_X12_in_b18
  by_cases h1 : a < b
  · rw [if_pos (cmp_lt.mpr h1), if_neg (fun h => Int64.not_le.mpr h1 h.1)]; rfl
  · rw [if_neg (fun h => h1 (cmp_lt.mp h))]
    by_cases h2 : c < a
    · rw [if_pos (cmp_gt.mpr h2), if_neg (fun h => Int64.not_le.mpr h2 h.2)]; rfl
    · rw [if_neg (fun h => h2 (cmp_gt.mp h)), if_pos ⟨Int64.not_lt.mp h1, Int64.not_lt.mp h2⟩]; rfl
theorem isB_ite {c : Prop} {hc : Decidable c} : isB (if c then (1 : Int32) else 0) = true := by
  by_cases h : c
  · rw [if_pos h]; rfl
  · rw [if_neg h]; rfl
