/-! ===== class and reference: what holds between them ===== -/
def NoteOk (v s l p m : Int32) : Prop := (0 ≤ v ∧ v ≤ 3) ∧ (0 ≤ s ∧ s ≤ 9600) ∧ (1 ≤ l ∧ l ≤ 960) ∧ (12 ≤ p ∧ p ≤ 115) ∧ (0 ≤ m ∧ m ≤ 127)
def RNotes (S T : St) : Prop := ∃ n, n ≤ 48 ∧ gI S 2 = nI n ∧ gI T 23 = nI n ∧ ∀ k, k < n → (gA T 49 k = gA S 13 k ∧ gA T 50 k = gA S 14 k ∧ gA T 51 k = gA S 15 k ∧ gA T 52 k = gA S 16 k ∧ gA T 53 k = gA S 17 k) ∧ NoteOk (gA S 13 k) (gA S 14 k) (gA S 15 k) (gA S 16 k) (gA S 17 k)
def RMeter (S T : St) : Prop := gI T 25 = gI S 0 ∧ gI T 26 = gI S 1 ∧ (1 ≤ gI S 0 ∧ gI S 0 ≤ 12) ∧ (1 ≤ gI S 1 ∧ gI S 1 ≤ 960)
def RLevels (S T : St) : Prop := ∃ n, n ≤ 12 ∧ gI S 3 = nI n ∧ gI T 24 = nI n ∧ (∀ i j, i < j → j < n → gA S 18 i < gA S 18 j) ∧ (∀ i, i < n → (0 ≤ gA S 18 i ∧ gA S 18 i ≤ 20000) ∧ (1 ≤ gA S 19 i ∧ gA S 19 i ≤ 127) ∧ (gA S 20 i = 0 ∨ gA S 20 i = 1)) ∧ (∀ i, i < n → ∃ j, j < n ∧ gA T 54 j = gA S 18 i ∧ gA T 55 j = gA S 19 i ∧ gA T 56 j = gA S 20 i) ∧ (∀ j, j < n → ∃ i, i < n ∧ gA T 54 j = gA S 18 i ∧ gA T 55 j = gA S 19 i ∧ gA T 56 j = gA S 20 i) ∧ (∀ i j, i < n → j < n → gA T 54 i = gA T 54 j → i = j)
def RArcs (S T : St) : Prop := ∃ n, n ≤ 6 ∧ gI S 4 = nI n ∧ gI T 27 = nI n ∧ (∀ k, k < n → (gA T 57 k = gA S 21 k ∧ gA T 58 k = gA S 22 k ∧ gA T 59 k = gA S 23 k) ∧ 0 ≤ gA S 21 k ∧ gA S 21 k < gA S 22 k ∧ gA S 22 k ≤ 20000 ∧ (-400) ≤ gA S 23 k ∧ gA S 23 k ≤ 400) ∧ (∀ i j, i < n → j < n → i ≠ j → gA S 22 i ≤ gA S 21 j ∨ gA S 22 j ≤ gA S 21 i)
def RTape (S T : St) : Prop := ∃ n, n ≤ 400 ∧ gI S 5 = nI n ∧ gI T 29 = nI n ∧ ∀ k, k < n → gA T 64 k = gA S 24 k &&& 255
/-- which rule counts, of the first ones -/
def cntF (V N R : Nat → Int32) (v m : Int32) : Nat → Int32
  | 0 => -1
  | k + 1 => if N k = m ∧ (V k = -1 ∨ V k = v) then (if cntF V N R v m k = -1 then nI k else if R k < R (cntF V N R v m k).toNatClampNeg then cntF V N R v m k else nI k) else cntF V N R v m k
def RuleOk (v m x r : Int32) : Prop := (-1 ≤ v ∧ v ≤ 3) ∧ (0 ≤ m ∧ m ≤ 12) ∧ (tbr 1 m ≤ x ∧ x ≤ tbr 2 m) ∧ (0 ≤ r ∧ r ≤ 9)
def RRules (S T : St) : Prop := ∃ n, n ≤ 24 ∧ gI S 6 = nI n ∧ gI T 28 = nI n ∧ (∀ k, k < n → (gA T 60 k = gA S 26 k ∧ gA T 61 k = gA S 27 k ∧ gA T 62 k = gA S 28 k ∧ gA T 63 k = gA S 29 k) ∧ RuleOk (gA S 26 k) (gA S 27 k) (gA S 28 k) (gA S 29 k)) ∧ ∀ v m, v < 4 → m < 13 → gA S 30 (v * 13 + m) = cntF (gA S 26) (gA S 27) (gA S 29) (nI v) (nI m) n
def REvents (S T : St) : Prop := ∃ n, n ≤ 400 ∧ gI S 21 = nI n ∧ gI T 34 = nI n ∧ (∀ i, i < n → (∀ c, c < 6 → gA T 66 (6 * i + c) = gA S (42 + c) i) ∧ ∃ j, nI j < gI S 2 ∧ j < 48 ∧ gA S 46 i = nI j ∧ gA S 48 i = gA S 13 j) ∧ ∀ i j, i ≤ j → j < n → gA S 42 i ≤ gA S 42 j
def ROrder (S : St) : Prop := (gR S 0 = 39 ∧ gR S 1 = 40) ∨ (gR S 0 = 40 ∧ gR S 1 = 39)
def Rel (S T : St) : Prop := RNotes S T ∧ RMeter S T ∧ RLevels S T ∧ RArcs S T ∧ RTape S T ∧ RRules S T ∧ REvents S T ∧ ROrder S ∧ gJ T 1 = gJ S 0
/-- the reference's half is as it was -/
def KM (T T1 : St) : Prop := (∀ k, 23 ≤ k → gI T1 k = gI T k) ∧ (∀ k, 49 ≤ k → gA T1 k = gA T k) ∧ gJ T1 1 = gJ T 1
/-- the class's half is as it was -/
def KC (S S1 : St) : Prop := (∀ k, k < 23 → gI S1 k = gI S k) ∧ (∀ k, k < 49 → gA S1 k = gA S k) ∧ gJ S1 0 = gJ S 0 ∧ (∀ k, gR S1 k = gR S k)
theorem all_not {p : Nat → Bool} {l : List Nat} (h : l.all p = true) {k : Nat} (q : p k = false) : l.contains k = false := by
  cases hc : l.contains k with
  | false => rfl
  | true =>
    have h1 := List.all_eq_true.mp h k (List.contains_iff_mem.mp hc)
    rw [h1] at q; cases q
theorem Fr.km {w : List Nat × List Nat × List Nat × Bool} {S S1 : St} (F : Fr w S S1) (a : w.1.all (fun k => decide (k < 23)) = true) (b : w.2.1.all (fun k => decide (k < 49)) = true) (c : w.2.2.1.contains 1 = false) : KM S S1 :=
  ⟨fun k h => F.1 k (all_not a (decide_eq_false (by omega))), fun k h => F.2.1 k (all_not b (decide_eq_false (by omega))), F.2.2.1 1 c⟩
theorem Fr.kc {w : List Nat × List Nat × List Nat × Bool} {S S1 : St} (F : Fr w S S1) (a : w.1.all (fun k => decide (23 ≤ k)) = true) (b : w.2.1.all (fun k => decide (49 ≤ k)) = true) (c : w.2.2.1.contains 0 = false) (d : w.2.2.2 = false) : KC S S1 :=
  ⟨fun k h => F.1 k (all_not a (decide_eq_false (by omega))), fun k h => F.2.1 k (all_not b (decide_eq_false (by omega))), F.2.2.1 0 c, fun k => (F.2.2.2 d k).2⟩
theorem RNotes.c {S S1 T : St} (R : RNotes S T) (h2 : gI S1 2 = gI S 2) (h13 : gA S1 13 = gA S 13) (h14 : gA S1 14 = gA S 14) (h15 : gA S1 15 = gA S 15) (h16 : gA S1 16 = gA S 16) (h17 : gA S1 17 = gA S 17) : RNotes S1 T := by
  unfold RNotes; rw [h2, h13, h14, h15, h16, h17]; exact R
theorem RNotes.m {S T T1 : St} (R : RNotes S T) (h : gI T1 23 = gI T 23) (h49 : gA T1 49 = gA T 49) (h50 : gA T1 50 = gA T 50) (h51 : gA T1 51 = gA T 51) (h52 : gA T1 52 = gA T 52) (h53 : gA T1 53 = gA T 53) : RNotes S T1 := by
  unfold RNotes; rw [h, h49, h50, h51, h52, h53]; exact R
theorem RMeter.c {S S1 T : St} (R : RMeter S T) (h0 : gI S1 0 = gI S 0) (h1 : gI S1 1 = gI S 1) : RMeter S1 T := by
  unfold RMeter; rw [h0, h1]; exact R
theorem RMeter.m {S T T1 : St} (R : RMeter S T) (h0 : gI T1 25 = gI T 25) (h1 : gI T1 26 = gI T 26) : RMeter S T1 := by
  unfold RMeter; rw [h0, h1]; exact R
theorem RLevels.c {S S1 T : St} (R : RLevels S T) (h3 : gI S1 3 = gI S 3) (a : gA S1 18 = gA S 18) (b : gA S1 19 = gA S 19) (c : gA S1 20 = gA S 20) : RLevels S1 T := by
  unfold RLevels; rw [h3, a, b, c]; exact R
theorem RLevels.m {S T T1 : St} (R : RLevels S T) (h3 : gI T1 24 = gI T 24) (a : gA T1 54 = gA T 54) (b : gA T1 55 = gA T 55) (c : gA T1 56 = gA T 56) : RLevels S T1 := by
  unfold RLevels; rw [h3, a, b, c]; exact R
theorem RArcs.c {S S1 T : St} (R : RArcs S T) (h3 : gI S1 4 = gI S 4) (a : gA S1 21 = gA S 21) (b : gA S1 22 = gA S 22) (c : gA S1 23 = gA S 23) : RArcs S1 T := by
  unfold RArcs; rw [h3, a, b, c]; exact R
theorem RArcs.m {S T T1 : St} (R : RArcs S T) (h3 : gI T1 27 = gI T 27) (a : gA T1 57 = gA T 57) (b : gA T1 58 = gA T 58) (c : gA T1 59 = gA T 59) : RArcs S T1 := by
  unfold RArcs; rw [h3, a, b, c]; exact R
theorem RTape.c {S S1 T : St} (R : RTape S T) (h3 : gI S1 5 = gI S 5) (a : gA S1 24 = gA S 24) : RTape S1 T := by
  unfold RTape; rw [h3, a]; exact R
theorem RTape.m {S T T1 : St} (R : RTape S T) (h3 : gI T1 29 = gI T 29) (a : gA T1 64 = gA T 64) : RTape S T1 := by
  unfold RTape; rw [h3, a]; exact R
theorem RRules.c {S S1 T : St} (R : RRules S T) (h3 : gI S1 6 = gI S 6) (a : gA S1 26 = gA S 26) (b : gA S1 27 = gA S 27) (c : gA S1 28 = gA S 28) (d : gA S1 29 = gA S 29) (e : gA S1 30 = gA S 30) : RRules S1 T := by
  unfold RRules; rw [h3, a, b, c, d, e]; exact R
theorem RRules.m {S T T1 : St} (R : RRules S T) (h3 : gI T1 28 = gI T 28) (a : gA T1 60 = gA T 60) (b : gA T1 61 = gA T 61) (c : gA T1 62 = gA T 62) (d : gA T1 63 = gA T 63) : RRules S T1 := by
  unfold RRules; rw [h3, a, b, c, d]; exact R
theorem REvents.c {S S1 T : St} (R : REvents S T) (h2 : gI S1 2 = gI S 2) (h3 : gI S1 21 = gI S 21) (a : gA S1 13 = gA S 13) (b : ∀ c, c < 7 → gA S1 (42 + c) = gA S (42 + c)) : REvents S1 T := by
  obtain ⟨n, hn, e1, e2, hc, hs⟩ := R
  refine ⟨n, hn, h3.trans e1, e2, fun i hi => ⟨fun c h => ?_, ?_⟩, fun i j h1 h4 => ?_⟩
  · rw [b c (by omega)]; exact (hc i hi).1 c h
  · obtain ⟨j, q⟩ := (hc i hi).2
    refine ⟨j, ?_⟩
    rw [h2, a, show gA S1 46 = gA S 46 from b 4 (by omega), show gA S1 48 = gA S 48 from b 6 (by omega)]; exact q
  · rw [show gA S1 42 = gA S 42 from b 0 (by omega)]; exact hs i j h1 h4
theorem REvents.m {S T T1 : St} (R : REvents S T) (h3 : gI T1 34 = gI T 34) (a : gA T1 66 = gA T 66) : REvents S T1 := by
  unfold REvents; rw [h3, a]; exact R
theorem ROrder.c {S S1 : St} (R : ROrder S) (h : ∀ k, gR S1 k = gR S k) : ROrder S1 := by
  unfold ROrder; rw [h, h]; exact R
theorem KM.rel {S T T1 : St} (K : KM T T1) (R : Rel S T) : Rel S T1 := by
  obtain ⟨r1, r2, r3, r4, r5, r6, r7, r8, r9⟩ := R
  obtain ⟨a, b, c⟩ := K
  exact ⟨r1.m (a _ (by decide)) (b _ (by decide)) (b _ (by decide)) (b _ (by decide)) (b _ (by decide)) (b _ (by decide)), r2.m (a _ (by decide)) (a _ (by decide)), r3.m (a _ (by decide)) (b _ (by decide)) (b _ (by decide)) (b _ (by decide)), r4.m (a _ (by decide)) (b _ (by decide)) (b _ (by decide)) (b _ (by decide)), r5.m (a _ (by decide)) (b _ (by decide)), r6.m (a _ (by decide)) (b _ (by decide)) (b _ (by decide)) (b _ (by decide)) (b _ (by decide)), r7.m (a _ (by decide)) (b _ (by decide)), r8, c.trans r9⟩
theorem KC.rel {S S1 T : St} (K : KC S S1) (R : Rel S T) : Rel S1 T := by
  obtain ⟨r1, r2, r3, r4, r5, r6, r7, r8, r9⟩ := R
  obtain ⟨a, b, c, d⟩ := K
  exact ⟨r1.c (a _ (by decide)) (b _ (by decide)) (b _ (by decide)) (b _ (by decide)) (b _ (by decide)) (b _ (by decide)), r2.c (a _ (by decide)) (a _ (by decide)), r3.c (a _ (by decide)) (b _ (by decide)) (b _ (by decide)) (b _ (by decide)), r4.c (a _ (by decide)) (b _ (by decide)) (b _ (by decide)) (b _ (by decide)), r5.c (a _ (by decide)) (b _ (by decide)), r6.c (a _ (by decide)) (b _ (by decide)) (b _ (by decide)) (b _ (by decide)) (b _ (by decide)) (b _ (by decide)), r7.c (a _ (by decide)) (a _ (by decide)) (b _ (by decide)) (fun k h => b _ (by omega)), r8.c d, r9.trans c.symm⟩
/-- one call of both: same answer, and again related -/
def Op (f g : St → Option (Int32 × St)) : Prop := ∀ S T, Rel S T → ∃ r S1 T1, f S = some (r, S1) ∧ g T = some (r, T1) ∧ Rel S1 T1
theorem Op.glue {f g : St → Option (Int32 × St)} (h : Op f g) (hf : ∀ S r0, f S = some r0 → KM S r0.2) (hg : ∀ T r0, g T = some r0 → KC T r0.2) {S : St} (R : Rel S S) : ∃ r S1 T1, f S = some (r, S1) ∧ g S1 = some (r, T1) ∧ Rel T1 T1 := by
  obtain ⟨r, S1, T1, e1, e2, R1⟩ := h S S R
  obtain ⟨r2, S2, T2, e3, e4, R2⟩ := h S S1 ((hf S _ e1).rel R)
  have e5 := e1.symm.trans e3
  have e6 := Option.some.inj e5
  have e7 : r = r2 := congrArg Prod.fst e6
  have e8 : S1 = S2 := congrArg Prod.snd e6
  subst e7; subst e8
  exact ⟨r, S1, T2, e1, e4, (hg S1 _ e4).rel R2⟩
theorem ite01 {α : Type} {c : Prop} {hc : Decidable c} {x y : α} {h : Decidable ((if c then (1 : Int32) else 0) = 0)} : @ite α ((if c then (1 : Int32) else 0) = 0) h x y = if c then y else x := by
  by_cases q : c
  · have e : ¬ ((if c then (1 : Int32) else 0) = 0) := by rw [if_pos q]; decide
    exact (if_neg e).trans (if_pos q).symm
  · have e : (if c then (1 : Int32) else 0) = 0 := if_neg q
    exact (if_pos e).trans (if_neg q).symm
theorem in_w (a b c : Int32) {lo hi : Int64} (h1 : lo = b.toInt64) (h2 : hi = c.toInt64) (S : St) : f_X12_in a.toInt64 lo hi S = some (if b ≤ a ∧ a ≤ c then 1 else 0, S) := by
  rw [in_eq, h1, h2]
  have e : (b.toInt64 ≤ a.toInt64 ∧ a.toInt64 ≤ c.toInt64) = (b ≤ a ∧ a ≤ c) := by rw [wide_le, wide_le]
  simp only [e]
theorem isVoice_eq (a : Int32) (S : St) : f_X11_isVoice a S = some (if 0 ≤ a ∧ a ≤ 3 then 1 else 0, S) := by
  unfold f_X11_isVoice f_X11_isVoice_b0; rw [isWithin_eq, bnd_mk, chk_of isB_ite]
theorem isTick_eq (a : Int32) (S : St) : f_X11_isTick a S = some (if 0 ≤ a ∧ a ≤ 20000 then 1 else 0, S) := by
  unfold f_X11_isTick f_X11_isTick_b0; rw [isWithin_eq, bnd_mk, chk_of isB_ite]
theorem has4_eq (a : Int32) (S : St) : f_X4_has a S = some (if 0 ≤ a ∧ a ≤ gI S 2 - 1 then 1 else 0, S) := by
  unfold f_X4_has f_X4_has_b0; rw [isWithin_eq, bnd_mk, chk_of isB_ite]
theorem isNote_eq (a : Int32) (S : St) : f_X12_isNote a S = some (if 0 ≤ a ∧ a ≤ gI S 23 - 1 then 1 else 0, S) := by
  unfold f_X12_isNote f_X12_isNote_b0; rw [in_w a 0 _ (by decide) rfl, bnd_mk, chk_of isB_ite]
theorem upd_self {f : Nat → Int32} {k : Nat} {v : Int32} : upd f k v k = v := if_pos rfl
theorem upd_ne {f : Nat → Int32} {k j : Nat} {v : Int32} (h : j ≠ k) : upd f k v j = f j := if_neg h
