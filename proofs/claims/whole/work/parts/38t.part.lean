/-! ===== perform: a part in both ===== -/
def Wc : List Nat × List Nat × List Nat × Bool := ([12, 13, 14, 15, 16, 17, 18, 19, 20], [32, 33, 34, 35, 36, 37, 38], [], false)
def Wm : List Nat × List Nat × List Nat × Bool := ([33, 35, 36, 37], [65], [], false)
theorem Rel.scr {S S1 T T1 : St} (R : Rel S T) (F : Fr Wc S S1) (G : Fr Wm T T1) : Rel S1 T1 := by
  obtain ⟨r1, r2, r3, r4, r5, r6, r7, r8, r9⟩ := R
  exact ⟨(r1.c (F.1 _ rfl) (F.2.1 _ rfl) (F.2.1 _ rfl) (F.2.1 _ rfl) (F.2.1 _ rfl) (F.2.1 _ rfl)).m (G.1 _ rfl) (G.2.1 _ rfl) (G.2.1 _ rfl) (G.2.1 _ rfl) (G.2.1 _ rfl) (G.2.1 _ rfl), (r2.c (F.1 _ rfl) (F.1 _ rfl)).m (G.1 _ rfl) (G.1 _ rfl), (r3.c (F.1 _ rfl) (F.2.1 _ rfl) (F.2.1 _ rfl) (F.2.1 _ rfl)).m (G.1 _ rfl) (G.2.1 _ rfl) (G.2.1 _ rfl) (G.2.1 _ rfl), (r4.c (F.1 _ rfl) (F.2.1 _ rfl) (F.2.1 _ rfl) (F.2.1 _ rfl)).m (G.1 _ rfl) (G.2.1 _ rfl) (G.2.1 _ rfl) (G.2.1 _ rfl), (r5.c (F.1 _ rfl) (F.2.1 _ rfl)).m (G.1 _ rfl) (G.2.1 _ rfl), (r6.c (F.1 _ rfl) (F.2.1 _ rfl) (F.2.1 _ rfl) (F.2.1 _ rfl) (F.2.1 _ rfl) (F.2.1 _ rfl)).m (G.1 _ rfl) (G.2.1 _ rfl) (G.2.1 _ rfl) (G.2.1 _ rfl) (G.2.1 _ rfl), (r7.c (F.1 _ rfl) (F.1 _ rfl) (F.2.1 _ rfl) (fun c h => F.2.1 _ (all_not (l := Wc.2.1) (p := fun k => decide (k < 42)) rfl (decide_eq_false (by omega))))).m (G.1 _ rfl) (G.2.1 _ rfl), r8.c (fun k => (F.2.2.2 rfl k).2), (G.2.2.1 _ rfl).trans (r9.trans (F.2.2.1 _ rfl).symm)⟩
theorem BB.scr {S S1 : St} (F : Fr Wc S S1) : BB S1 = BB S := by
  unfold BB; rw [F.1 4 rfl, F.2.1 21 rfl, F.2.1 22 rfl, F.2.1 23 rfl]
def Pt (B : Int32 → Int32) (S T : St) (i : Nat) : Prop := (∃ a b, a + b ≤ 10659 ∧ gA S 32 i = nI a ∧ gA S 33 i = nI b ∧ gA T 65 (6 * i + 0) = B (nI a) ∧ gA T 65 (6 * i + 1) = imax 1 (B (nI (a + b)) - B (nI a))) ∧ (∀ c, 2 ≤ c → c < 6 → gA T 65 (6 * i + c) = gA S (32 + c) i) ∧ (∃ j, j < 48 ∧ nI j < gI S 2 ∧ gA S 36 i = nI j ∧ gA S 38 i = gA S 13 j) ∧ (∃ q, q ≤ 117 ∧ gA S 34 i = nI q)
/-- p parts so far, none of a note behind k -/
def Ps (B : Int32 → Int32) (S T : St) (p k : Nat) : Prop := gI T 33 = nI p ∧ (p ≤ 400 → gI S 19 = nI p ∧ gI S 20 = 0 ∧ (∀ i, i < p → Pt B S T i) ∧ (∀ i, i < p → gA S 36 i ≤ nI k) ∧ ∀ i j, i ≤ j → j < p → gA S 36 i ≤ gA S 36 j) ∧ (400 < p → gI S 19 = nI 400 ∧ gI S 20 = 1)
def Mid (B : Int32 → Int32) (S T : St) (k p a b : Nat) (lo : Int32) : Prop := Ps B S T p k ∧ Taken S k ∧ (gI S 17 = nI a ∧ gI T 35 = nI a) ∧ (gI S 18 = nI b ∧ gI T 36 = nI b) ∧ (gI S 16 = lo ∧ gI T 37 = lo) ∧ a + b ≤ 10659 ∧ p + b ≤ 960 * (k + 1) ∧ BB S = B ∧ k < 48 ∧ nI k < gI S 2
theorem imax_if {α : Type} (F : Int32 → α) (x : Int32) : (if 1 ≤ x then F x else F 1) = F (imax 1 x) := by
  unfold imax
  by_cases h : 1 < x
  · rw [if_pos h, if_pos (Int32.le_of_lt h)]
  · rw [if_neg h]
    by_cases h2 : 1 ≤ x
    · rw [if_pos h2, Int32.le_antisymm h2 (Int32.not_lt.mp h)]
    · rw [if_neg h2]
theorem row6 (g : Nat → Int32) (p : Nat) (v0 v1 v2 v3 v4 v5 : Int32) : (∀ i c, i ≠ p → c < 6 → upd (upd (upd (upd (upd (upd g (6 * p + 0) v0) (6 * p + 1) v1) (6 * p + 2) v2) (6 * p + 3) v3) (6 * p + 4) v4) (6 * p + 5) v5 (6 * i + c) = g (6 * i + c)) ∧ upd (upd (upd (upd (upd (upd g (6 * p + 0) v0) (6 * p + 1) v1) (6 * p + 2) v2) (6 * p + 3) v3) (6 * p + 4) v4) (6 * p + 5) v5 (6 * p + 0) = v0 ∧ upd (upd (upd (upd (upd (upd g (6 * p + 0) v0) (6 * p + 1) v1) (6 * p + 2) v2) (6 * p + 3) v3) (6 * p + 4) v4) (6 * p + 5) v5 (6 * p + 1) = v1 ∧ upd (upd (upd (upd (upd (upd g (6 * p + 0) v0) (6 * p + 1) v1) (6 * p + 2) v2) (6 * p + 3) v3) (6 * p + 4) v4) (6 * p + 5) v5 (6 * p + 2) = v2 ∧ upd (upd (upd (upd (upd (upd g (6 * p + 0) v0) (6 * p + 1) v1) (6 * p + 2) v2) (6 * p + 3) v3) (6 * p + 4) v4) (6 * p + 5) v5 (6 * p + 3) = v3 ∧ upd (upd (upd (upd (upd (upd g (6 * p + 0) v0) (6 * p + 1) v1) (6 * p + 2) v2) (6 * p + 3) v3) (6 * p + 4) v4) (6 * p + 5) v5 (6 * p + 4) = v4 ∧ upd (upd (upd (upd (upd (upd g (6 * p + 0) v0) (6 * p + 1) v1) (6 * p + 2) v2) (6 * p + 3) v3) (6 * p + 4) v4) (6 * p + 5) v5 (6 * p + 5) = v5 := by
  refine ⟨fun i c h hc => ?_, ?_, ?_, ?_, ?_, ?_, ?_⟩
  · rw [upd_ne (by omega), upd_ne (by omega), upd_ne (by omega), upd_ne (by omega), upd_ne (by omega), upd_ne (by omega)]
  · rw [upd_ne (by omega), upd_ne (by omega), upd_ne (by omega), upd_ne (by omega), upd_ne (by omega), upd_self]
  · rw [upd_ne (by omega), upd_ne (by omega), upd_ne (by omega), upd_ne (by omega), upd_self]
  · rw [upd_ne (by omega), upd_ne (by omega), upd_ne (by omega), upd_self]
  · rw [upd_ne (by omega), upd_ne (by omega), upd_self]
  · rw [upd_ne (by omega), upd_self]
  · rw [upd_self]
/-- the class puts a part -/
theorem add_C {S : St} {p : Nat} (e : gI S 19 = nI p) (h : p < 400) (a1 a2 a3 a4 a5 a6 a7 : Int32) : ∃ S1, f_X1_add a1 a2 a3 a4 a5 a6 a7 S = some ((), S1) ∧ gI S1 19 = nI (p + 1) ∧ gI S1 20 = gI S 20 ∧ gA S1 32 = upd (gA S 32) p a1 ∧ gA S1 33 = upd (gA S 33) p a2 ∧ gA S1 34 = upd (gA S 34) p a3 ∧ gA S1 35 = upd (gA S 35) p a4 ∧ gA S1 36 = upd (gA S 36) p a5 ∧ gA S1 37 = upd (gA S 37) p a6 ∧ gA S1 38 = upd (gA S 38) p a7 := by
  have g1 : inb (nI p) 400 = true := inb_nI h (by omega)
  have g2 : (nI p).toNatClampNeg = p := nI_clamp (by omega)
  unfold f_X1_add f_X1_add_b0
  simp only [e, if_pos (show nI p < 400 from nI_lt (b := 400) h (by omega)), chk_of g1, vlet_eq, gI_wr]
  refine ⟨_, rfl, ?_, rfl, ?_, ?_, ?_, ?_, ?_, ?_, ?_⟩
  · rw [gI_pI, if_pos rfl, nI_1]
  all_goals simp only [gA_pI, gA_wr, reduceIte, Nat.reduceEqDiff, g2]
theorem wr65 (S : St) (i v : Int32) : gA (wr S 65 i v) 65 = upd (gA S 65) i.toNatClampNeg v := by rw [gA_wr, if_pos rfl]
theorem wr52 (S : St) (i v : Int32) : gA (wr S 65 i v) 52 = gA S 52 := by rw [gA_wr, if_neg (by decide)]
theorem b146_M {T : St} {p : Nat} (e : gI T 33 = nI p) (t : Int32) : ∃ T1, f_X12_sounds_b146 t T = some ((), T1) ∧ gI T1 33 = nI (p + 1) ∧ gI T1 35 = gI T 35 + t ∧ gI T1 36 = gI T 36 - t ∧ gA T1 65 = gA T 65 := by
  unfold f_X12_sounds_b146
  rw [vlet_eq, vlet_eq, vlet_eq, e, nI_1]
  refine ⟨_, rfl, ?_, ?_, ?_, rfl⟩
  · rw [gI_pI, if_neg (by decide), gI_pI, if_neg (by decide), gI_pI, if_pos rfl]
  · rw [gI_pI, if_neg (by decide), gI_pI, if_pos rfl, gI_pI, if_neg (by decide)]
  · rw [gI_pI, if_pos rfl, gI_pI, if_neg (by decide), gI_pI, if_neg (by decide)]
theorem b77_M {S : St} {p k : Nat} (e : gI S 33 = nI p) (h : p < 400) (hk : k < 48) (kind dy x t v : Int32) : ∃ T1, f_X12_sounds_b77 (nI k) kind dy x t (nI (6 * p + 1)) v S = some ((), T1) ∧ gI T1 33 = nI (p + 1) ∧ gI T1 35 = gI S 35 + t ∧ gI T1 36 = gI S 36 - t ∧ gA T1 65 = upd (upd (upd (upd (upd (gA S 65) (6 * p + 1) v) (6 * p + 2) (gA S 52 k + dy)) (6 * p + 3) x) (6 * p + 4) (nI k)) (6 * p + 5) kind := by
  have g1 : inb (nI k) 48 = true := inb_nI hk (by omega)
  have g2 : (nI k).toNatClampNeg = k := nI_clamp (by omega)
  have i1 := in6 (c := 1) h (by omega)
  have i2 := in6 (c := 2) h (by omega)
  have i3 := in6 (c := 3) h (by omega)
  have i4 := in6 (c := 4) h (by omega)
  have i5 := in6 (c := 5) h (by omega)
  have c1 := cl6 (c := 1) h (by omega)
  have c2 := cl6 (c := 2) h (by omega)
  have c3 := cl6 (c := 3) h (by omega)
  have c4 := cl6 (c := 4) h (by omega)
  have c5 := cl6 (c := 5) h (by omega)
  unfold f_X12_sounds_b77
  rw [chk_of i1, vlet_eq, chk_of g1]
  have d1 : gA (wr S 65 (nI (6 * p + 1)) v) 65 = upd (gA S 65) (6 * p + 1) v := by rw [wr65, c1]
  have e1 : gI (wr S 65 (nI (6 * p + 1)) v) 33 = nI p := (gI_wr _ _ _ _ _).trans e
  have f1 : gI (wr S 65 (nI (6 * p + 1)) v) 35 = gI S 35 := gI_wr _ _ _ _ _
  have h1 : gI (wr S 65 (nI (6 * p + 1)) v) 36 = gI S 36 := gI_wr _ _ _ _ _
  have r1 : rd (wr S 65 (nI (6 * p + 1)) v) 52 (nI k) = gA S 52 k := by unfold rd; rw [wr52, g2]
  generalize wr S 65 (nI (6 * p + 1)) v = S1 at *
  rw [e1, ix62, chk_of i2, vlet_eq, r1]
  have d2 : gA (wr S1 65 (nI (6 * p + 2)) (gA S 52 k + dy)) 65 = upd (gA S1 65) (6 * p + 2) (gA S 52 k + dy) := by rw [wr65, c2]
  have e2 : gI (wr S1 65 (nI (6 * p + 2)) (gA S 52 k + dy)) 33 = nI p := (gI_wr _ _ _ _ _).trans e1
  have f2 : gI (wr S1 65 (nI (6 * p + 2)) (gA S 52 k + dy)) 35 = gI S 35 := (gI_wr _ _ _ _ _).trans f1
  have h2 : gI (wr S1 65 (nI (6 * p + 2)) (gA S 52 k + dy)) 36 = gI S 36 := (gI_wr _ _ _ _ _).trans h1
  generalize wr S1 65 (nI (6 * p + 2)) (gA S 52 k + dy) = S2 at *
  rw [e2, ix63, chk_of i3, vlet_eq]
  have d3 : gA (wr S2 65 (nI (6 * p + 3)) x) 65 = upd (gA S2 65) (6 * p + 3) x := by rw [wr65, c3]
  have e3 : gI (wr S2 65 (nI (6 * p + 3)) x) 33 = nI p := (gI_wr _ _ _ _ _).trans e2
  have f3 : gI (wr S2 65 (nI (6 * p + 3)) x) 35 = gI S 35 := (gI_wr _ _ _ _ _).trans f2
  have h3 : gI (wr S2 65 (nI (6 * p + 3)) x) 36 = gI S 36 := (gI_wr _ _ _ _ _).trans h2
  generalize wr S2 65 (nI (6 * p + 3)) x = S3 at *
  rw [e3, ix64, chk_of i4, vlet_eq]
  have d4 : gA (wr S3 65 (nI (6 * p + 4)) (nI k)) 65 = upd (gA S3 65) (6 * p + 4) (nI k) := by rw [wr65, c4]
  have e4 : gI (wr S3 65 (nI (6 * p + 4)) (nI k)) 33 = nI p := (gI_wr _ _ _ _ _).trans e3
  have f4 : gI (wr S3 65 (nI (6 * p + 4)) (nI k)) 35 = gI S 35 := (gI_wr _ _ _ _ _).trans f3
  have h4 : gI (wr S3 65 (nI (6 * p + 4)) (nI k)) 36 = gI S 36 := (gI_wr _ _ _ _ _).trans h3
  generalize wr S3 65 (nI (6 * p + 4)) (nI k) = S4 at *
  rw [e4, ix65, chk_of i5, vlet_eq]
  have d5 : gA (wr S4 65 (nI (6 * p + 5)) kind) 65 = upd (gA S4 65) (6 * p + 5) kind := by rw [wr65, c5]
  have e5 : gI (wr S4 65 (nI (6 * p + 5)) kind) 33 = nI p := (gI_wr _ _ _ _ _).trans e4
  have f5 : gI (wr S4 65 (nI (6 * p + 5)) kind) 35 = gI S 35 := (gI_wr _ _ _ _ _).trans f4
  have h5 : gI (wr S4 65 (nI (6 * p + 5)) kind) 36 = gI S 36 := (gI_wr _ _ _ _ _).trans h4
  generalize wr S4 65 (nI (6 * p + 5)) kind = S5 at *
  obtain ⟨T1, t0, t1, t2, t3, t4⟩ := b146_M e5 t
  exact ⟨T1, t0, t1, by rw [t2, f5], by rw [t3, h5], by rw [t4, d5, d4, d3, d2, d1]⟩
/-- the reference puts a part -/
theorem put_M {T : St} {p k : Nat} (B : Int32 → Int32) (e : gI T 33 = nI p) (h : p < 400) (hk : k < 48) (ht : ∀ t, f_X12_time t T = some (B t, T)) (kind dy x t : Int32) : ∃ T1, f_X12_sounds (nI k) kind dy x t T = some ((), T1) ∧ gI T1 33 = nI (p + 1) ∧ gI T1 35 = gI T 35 + t ∧ gI T1 36 = gI T 36 - t ∧ gA T1 65 = upd (upd (upd (upd (upd (upd (gA T 65) (6 * p + 0) (B (gI T 35))) (6 * p + 1) (imax 1 (B (gI T 35 + t) - B (gI T 35)))) (6 * p + 2) (gA T 52 k + dy)) (6 * p + 3) x) (6 * p + 4) (nI k)) (6 * p + 5) kind := by
  have i0 := in6 (c := 0) h (by omega)
  have c0 := cl6 (c := 0) h (by omega)
  unfold f_X12_sounds f_X12_sounds_b0
  rw [e, if_neg (show ¬ (400 : Int32) ≤ nI p from nI_ge (b := 400) h (by omega)), ht, bnd_mk, ht, bnd_mk, vlet_eq, e, ix60, chk_of i0, vlet_eq]
  have d0 : gA (wr T 65 (nI (6 * p + 0)) (B (gI T 35))) 65 = upd (gA T 65) (6 * p + 0) (B (gI T 35)) := by rw [wr65, c0]
  have e0 : gI (wr T 65 (nI (6 * p + 0)) (B (gI T 35))) 33 = nI p := (gI_wr _ _ _ _ _).trans e
  have r0 : gA (wr T 65 (nI (6 * p + 0)) (B (gI T 35))) 52 = gA T 52 := wr52 T _ _
  have f0 : gI (wr T 65 (nI (6 * p + 0)) (B (gI T 35))) 35 = gI T 35 := gI_wr _ _ _ _ _
  have h0 : gI (wr T 65 (nI (6 * p + 0)) (B (gI T 35))) 36 = gI T 36 := gI_wr _ _ _ _ _
  generalize wr T 65 (nI (6 * p + 0)) (B (gI T 35)) = S at *
  rw [e0, ix61, imax_if (fun z => f_X12_sounds_b77 (nI k) kind dy x t (nI (6 * p + 1)) z S)]
  obtain ⟨T1, t0, t1, t2, t3, t4⟩ := b77_M e0 h hk kind dy x t (imax 1 (B (gI T 35 + t) - B (gI T 35)))
  exact ⟨T1, t0, t1, by rw [t2, f0], by rw [t3, h0], by rw [t4, d0, r0]⟩
