/-! ===== perform: all notes ===== -/
theorem Ps.up {B : Int32 → Int32} {S T : St} {p k k1 : Nat} (h : Ps B S T p k) (hk : k ≤ k1) (hk1 : k1 < 2 ^ 31) : Ps B S T p k1 := by
  obtain ⟨P0, P1, P2⟩ := h
  refine ⟨P0, fun hp => ?_, P2⟩
  obtain ⟨x1, x2, x3, x4, x5⟩ := P1 hp
  exact ⟨x1, x2, x3, fun i hi => Int32.le_trans (x4 i hi) (nI_le hk hk1), x5⟩
theorem Pt.scr {B : Int32 → Int32} {S S1 T T1 : St} {i : Nat} (h : Pt B S T i) (a : ∀ c, c < 7 → gA S1 (32 + c) = gA S (32 + c)) (b : gA S1 13 = gA S 13) (c2 : gI S1 2 = gI S 2) (t : gA T1 65 = gA T 65) : Pt B S1 T1 i := by
  have a0 : gA S1 32 = gA S 32 := a 0 (by omega)
  have a1 : gA S1 33 = gA S 33 := a 1 (by omega)
  have a2 : gA S1 34 = gA S 34 := a 2 (by omega)
  have a4 : gA S1 36 = gA S 36 := a 4 (by omega)
  have a6 : gA S1 38 = gA S 38 := a 6 (by omega)
  obtain ⟨h1, h2, h3, h4⟩ := h
  refine ⟨?_, fun c q1 q2 => ?_, ?_, ?_⟩
  · rw [a0, a1, t]; exact h1
  · rw [t, a c (by omega)]; exact h2 c q1 q2
  · rw [a4, a6, b, c2]; exact h3
  · rw [a2]; exact h4
theorem Ps.scr {B : Int32 → Int32} {S S1 T T1 : St} {p k : Nat} (h : Ps B S T p k) (a : ∀ c, c < 7 → gA S1 (32 + c) = gA S (32 + c)) (b : gA S1 13 = gA S 13) (c2 : gI S1 2 = gI S 2) (c19 : gI S1 19 = gI S 19) (c20 : gI S1 20 = gI S 20) (t : gA T1 65 = gA T 65) (t33 : gI T1 33 = gI T 33) : Ps B S1 T1 p k := by
  obtain ⟨P0, P1, P2⟩ := h
  have a4 : gA S1 36 = gA S 36 := a 4 (by omega)
  refine ⟨t33.trans P0, fun hp => ?_, fun hp => ?_⟩
  · obtain ⟨x1, x2, x3, x4, x5⟩ := P1 hp
    refine ⟨c19.trans x1, c20.trans x2, fun i hi => (x3 i hi).scr a b c2 t, fun i hi => ?_, fun i j hi hj => ?_⟩
    · rw [a4]; exact x4 i hi
    · rw [a4]; exact x5 i j hi hj
  · rw [c19, c20]; exact P2 hp
theorem take_ok {S : St} {k : Nat} (hk : k < 48) : ∃ S1, f_X6_takeNote (nI k) S = some ((), S1) ∧ Taken S1 k := by
  have g1 : inb (nI k) 48 = true := inb_nI hk (by omega)
  have g2 : (nI k).toNatClampNeg = k := nI_clamp (by omega)
  unfold f_X6_takeNote f_X6_takeNote_b0
  simp only [chk_of g1, vlet_eq]
  refine ⟨_, rfl, ?_⟩
  unfold Taken
  simp only [gI_pI, gA_pI, reduceIte, Nat.reduceEqDiff, rd, g2, and_self]
theorem note_step {B : Int32 → Int32} {S T : St} {k n p : Nat} (R : Rel S T) (hn : gI S 2 = nI n) (hn48 : n ≤ 48) (hk : k < n) (hP : Ps B S T p k) (hp : p ≤ 960 * k) (hB : BB S = B) : ∃ S1 T1, (∀ {α : Type} (F : St → Option α), (bnd (f_X6_takeNote (nI k) S) (fun _u2 S2 => chk (inb (nI k) 48) (bnd (f_X6_longOf (rd S2 15 (nI k)) S2) (fun r4 S3 => vlet (pI S3 18 r4) (fun S5 => chk (inb (nI k) 48) (bnd (f_X6_loudOf (rd S5 14 (nI k)) S5) (fun r7 S6 => vlet (pI S6 16 r7) (fun S8 => chk (inb (nI k) 48) (bnd (f_X6_onOf (rd S8 14 (nI k)) (gJ S 0) S8) (fun r10 S9 => vlet (pI S9 17 r10) (fun S11 => bnd (f_X6_addParts S11) (fun _u12 S12 => F S12)))))))))))) = F S1) ∧ f_X12_performNote (nI k) T = some ((), T1) ∧ Done B k p S1 T1 ∧ Fr Wc S S1 ∧ Fr Wm T T1 := by
  have hk48 : k < 48 := by omega
  have g1 : inb (nI k) 48 = true := inb_nI hk48 (by omega)
  have g2 : (nI k).toNatClampNeg = k := nI_clamp (by omega)
  obtain ⟨S2, e2, tk⟩ := take_ok (S := S) hk48
  have F0 := fr_X6_takeNote _ S e2
  have F2 : Fr Wc S S2 := F0.mono rfl rfl rfl rfl
  have R2 : Rel S2 T := R.scr F2 Fr.rf
  have hn2 : gI S2 2 = nI n := (F2.1 2 rfl).trans hn
  -- the first number of the note: on
  obtain ⟨o, o1, o2⟩ := on_both R2.1 R2.2.2.2.2.2.1 R2.2.2.2.2.2.2.2.2 hn2 hn48 hk tk
  obtain ⟨a, ha, ea⟩ := on_bnd R2.1 R2.2.2.2.2.2.1 hn2 hn48 hk o2
  subst ea
  have G3 : Fr Wm T (pI T 35 (nI a)) := Fr.pI rfl rfl
  obtain ⟨w, w1, w2, l1, l2⟩ := long_both (R2.scr Fr.rf G3).1 (R2.scr Fr.rf G3).2.2.2.2.2.1 hn2 hn48 hk tk
  have F5 : Fr Wc S2 (pI S2 18 (nI w)) := Fr.pI rfl rfl
  have G6 : Fr Wm T (pI (pI T 35 (nI a)) 36 (nI w)) := G3.trans (Fr.pI rfl rfl)
  have R5 : Rel (pI S2 18 (nI w)) (pI (pI T 35 (nI a)) 36 (nI w)) := R2.scr F5 G6
  have tk5 : Taken (pI S2 18 (nI w)) k := tk
  obtain ⟨lo, v1, v2⟩ := loud_both R5.1 R5.2.2.2.2.2.1 R5.2.1 R5.2.2.1 hn2 hn48 hk tk5
  have F8 : Fr Wc S2 (pI (pI S2 18 (nI w)) 16 lo) := F5.trans (Fr.pI rfl rfl)
  have G9 : Fr Wm T (pI (pI (pI T 35 (nI a)) 36 (nI w)) 37 lo) := G6.trans (Fr.pI rfl rfl)
  have R8 : Rel (pI (pI S2 18 (nI w)) 16 lo) T := R2.scr F8 Fr.rf
  have tk8 : Taken (pI (pI S2 18 (nI w)) 16 lo) k := tk
  obtain ⟨o', o3, o4⟩ := on_both R8.1 R8.2.2.2.2.2.1 R8.2.2.2.2.2.2.2.2 hn2 hn48 hk tk8
  have eo : o' = nI a := by
    have := o4.symm.trans o2
    exact congrArg Prod.fst (Option.some.inj this)
  subst eo
  have F11 : Fr Wc S2 (pI (pI (pI S2 18 (nI w)) 16 lo) 17 (nI a)) := F8.trans (Fr.pI rfl rfl)
  have FA : Fr Wc S (pI (pI (pI S2 18 (nI w)) 16 lo) 17 (nI a)) := F2.trans F11
  have R11 : Rel (pI (pI (pI S2 18 (nI w)) 16 lo) 17 (nI a)) (pI (pI (pI T 35 (nI a)) 36 (nI w)) 37 lo) := R2.scr F11 G9
  have M : Mid B (pI (pI (pI S2 18 (nI w)) 16 lo) 17 (nI a)) (pI (pI (pI T 35 (nI a)) 36 (nI w)) 37 lo) k p a w lo := by
    refine ⟨hP.scr (fun c hc => ?_) ?_ ?_ ?_ ?_ rfl rfl, tk, ⟨rfl, rfl⟩, ⟨rfl, rfl⟩, ⟨rfl, rfl⟩, by omega, by omega, (BB.scr FA).trans hB, hk48, ?_⟩
    · exact F0.2.1 _ rfl
    · exact F0.2.1 13 rfl
    · exact F0.1 2 rfl
    · exact F0.1 19 rfl
    · exact F0.1 20 rfl
    · show nI k < gI S2 2
      rw [hn2]; exact nI_lt hk (by omega)
  obtain ⟨S1, T1, y1, y2, y3⟩ := parts_step R11 M w1
  have eM : f_X12_performNote (nI k) T = some ((), T1) := by
    unfold f_X12_performNote f_X12_performNote_b0
    rw [o2, bnd_mk, vlet_eq, l2, bnd_mk, vlet_eq, v2, bnd_mk, vlet_eq]
    exact y2
  refine ⟨S1, T1, fun F => ?_, eM, y3, ?_, ?_⟩
  · rw [e2, bnd_mk, chk_of g1]
    simp only [rd, g2]
    rw [l1, bnd_mk, vlet_eq, chk_of g1, v1, bnd_mk, vlet_eq, chk_of g1]
    have ej : gJ S 0 = gJ (pI (pI S2 18 (nI w)) 16 lo) 0 := (F0.2.2.1 0 rfl).symm
    rw [ej, o3, bnd_mk, vlet_eq, y1, bnd_mk]
  · exact FA.trans ((fr_X6_addParts _ y1).mono rfl rfl rfl rfl)
  · exact (fr_X12_performNote _ _ eM).mono rfl rfl rfl rfl
/-- too many already: the reference goes on counting -/
theorem over_loop {B : Int32 → Int32} {n : Nat} (hn48 : n ≤ 48) : ∀ d k g S T p, k + d = n → d < g → Rel S T → gI S 2 = nI n → Ps B S T p k → 400 < p → p ≤ 960 * k → BB S = B → ∃ T1, f_X12_perform_l7 g (nI k, T) = some (-1004, T1) ∧ Fr Wm T T1 := by
  intro d
  induction d with
  | zero =>
    intro k g S T p hk hg R hn hP hp hp2 hB
    have e : k = n := by omega
    subst e
    obtain ⟨g, rfl⟩ : ∃ f1, g = f1 + 1 := ⟨g - 1, by omega⟩
    obtain ⟨n2, h48, q1, q2, q3⟩ := R.1
    have en : n2 = k := (nI_eq (by omega) (by omega)).mp (q1.symm.trans hn)
    subst en
    refine ⟨T, ?_, Fr.rf⟩
    show f_X12_perform_b7 (f_X12_perform_l7 g) (nI n2) T = _
    unfold f_X12_perform_b7
    rw [q2, if_pos (nI_le (Nat.le_refl _) (by omega)), hP.1, if_neg (show ¬ nI p ≤ 400 from nI_ge (a := 400) hp (by omega))]
  | succ d ih =>
    intro k g S T p hk hg R hn hP hp hp2 hB
    obtain ⟨g, rfl⟩ : ∃ f1, g = f1 + 1 := ⟨g - 1, by omega⟩
    obtain ⟨S1, T1, y1, y2, ⟨R1, ⟨p1, hpp, hP1, hp1⟩, hB1⟩, F, G⟩ := note_step R hn hn48 (by omega) hP hp2 hB
    obtain ⟨n2, h48, q1, q2, q3⟩ := R.1
    have en : n2 = n := (nI_eq (by omega) (by omega)).mp (q1.symm.trans hn)
    subst en
    obtain ⟨T2, z1, z2⟩ := ih (k + 1) g S1 T1 p1 (by omega) (by omega) R1 ((F.1 2 rfl).trans hn) (hP1.up (by omega) (by omega)) (by omega) (by omega) hB1
    refine ⟨T2, ?_, G.trans z2⟩
    show f_X12_perform_b7 (f_X12_perform_l7 g) (nI k) T = _
    unfold f_X12_perform_b7
    rw [q2, if_neg (nI_ge (show k < n2 by omega) (by omega)), y2, bnd_mk, nI_1]
    exact z1
theorem make_loop {B : Int32 → Int32} {n : Nat} (hn48 : n ≤ 48) (j : Int64) : ∀ d k f g S T p, k + d = n → d < f → d < g → Rel S T → gI S 2 = nI n → gJ S 0 = j → Ps B S T p k → p ≤ 960 * k → BB S = B → (∃ S1 T1 p1, p1 ≤ 400 ∧ f_X6_makeParts_l10 j f (nI k, S) = some (1, S1) ∧ f_X12_perform_l7 g (nI k, T) = f_X12_perform_l50 fuel (0, pI T1 34 (nI p1)) ∧ Rel S1 T1 ∧ Ps B S1 T1 p1 n ∧ BB S1 = B) ∨ (∃ S1 T1, f_X6_makeParts_l10 j f (nI k, S) = some (0, S1) ∧ f_X12_perform_l7 g (nI k, T) = some (-1004, T1) ∧ Rel S1 T1) := by
  intro d
  induction d with
  | zero =>
    intro k f g S T p hk hf hg R hn hj hP hp hB
    have e : k = n := by omega
    subst e
    obtain ⟨n2, h48, q1, q2, q3⟩ := R.1
    have en : n2 = k := (nI_eq (by omega) (by omega)).mp (q1.symm.trans hn)
    subst en
    have i0 : isB 0 = true := rfl
    have i1 : isB 1 = true := rfl
    by_cases h4 : p ≤ 400
    · obtain ⟨f, rfl⟩ : ∃ f1, f = f1 + 1 := ⟨f - 1, by omega⟩
      obtain ⟨g, rfl⟩ : ∃ f1, g = f1 + 1 := ⟨g - 1, by omega⟩
      refine Or.inl ⟨S, T, p, h4, ?_, ?_, R, hP, hB⟩
      · show f_X6_makeParts_b10 (f_X6_makeParts_l10 j f) j (nI n2) S = _
        unfold f_X6_makeParts_b10 f_X6_makeParts_b116 f_X6_makeParts_b131
        rw [q1, if_pos (nI_le (Nat.le_refl _) (by omega)), (hP.2.1 h4).2.1, if_pos rfl, chk_of i1]
      · show f_X12_perform_b7 (f_X12_perform_l7 g) (nI n2) T = _
        unfold f_X12_perform_b7
        rw [q2, if_pos (nI_le (Nat.le_refl _) (by omega)), hP.1, if_pos (show nI p ≤ 400 from nI_le (b := 400) h4 (by omega)), vlet_eq]
    · obtain ⟨T1, z1, z2⟩ := over_loop hn48 0 n2 g S T p hk hg R hn hP (by omega) hp hB
      refine Or.inr ⟨S, T1, ?_, z1, R.scr Fr.rf z2⟩
      obtain ⟨f, rfl⟩ : ∃ f1, f = f1 + 1 := ⟨f - 1, by omega⟩
      show f_X6_makeParts_b10 (f_X6_makeParts_l10 j f) j (nI n2) S = _
      unfold f_X6_makeParts_b10 f_X6_makeParts_b116 f_X6_makeParts_b131
      rw [q1, if_pos (nI_le (Nat.le_refl _) (by omega)), (hP.2.2 (by omega)).2, if_neg (show ¬ (1 : Int32) = 0 by decide), chk_of i0]
  | succ d ih =>
    intro k f g S T p hk hf hg R hn hj hP hp hB
    obtain ⟨n2, h48, q1, q2, q3⟩ := R.1
    have en : n2 = n := (nI_eq (by omega) (by omega)).mp (q1.symm.trans hn)
    subst en
    have i0 : isB 0 = true := rfl
    by_cases h4 : p ≤ 400
    · obtain ⟨f, rfl⟩ : ∃ f1, f = f1 + 1 := ⟨f - 1, by omega⟩
      obtain ⟨g, rfl⟩ : ∃ f1, g = f1 + 1 := ⟨g - 1, by omega⟩
      obtain ⟨S1, T1, y1, y2, ⟨R1, ⟨p1, hpp, hP1, hp1⟩, hB1⟩, F, G⟩ := note_step R hn hn48 (show k < n2 by omega) hP hp hB
      have e1 : f_X6_makeParts_l10 j (f + 1) (nI k, S) = f_X6_makeParts_l10 j f (nI (k + 1), S1) := by
        show f_X6_makeParts_b10 (f_X6_makeParts_l10 j f) j (nI k) S = _
        unfold f_X6_makeParts_b10
        rw [q1, if_neg (nI_ge (show k < n2 by omega) (by omega)), (hP.2.1 h4).2.1, if_pos rfl, ← nI_1, ← hj]
        exact y1 (fun S12 => f_X6_makeParts_l10 (gJ S 0) f (nI k + 1, S12))
      have e2 : f_X12_perform_l7 (g + 1) (nI k, T) = f_X12_perform_l7 g (nI (k + 1), T1) := by
        show f_X12_perform_b7 (f_X12_perform_l7 g) (nI k) T = _
        unfold f_X12_perform_b7
        rw [q2, if_neg (nI_ge (show k < n2 by omega) (by omega)), y2, bnd_mk, nI_1]
      rw [e1, e2]
      exact ih (k + 1) f g S1 T1 p1 (by omega) (by omega) (by omega) R1 ((F.1 2 rfl).trans hn) ((F.2.2.1 0 rfl).trans hj) (hP1.up (by omega) (by omega)) (by omega) hB1
    · obtain ⟨T1, z1, z2⟩ := over_loop hn48 (d + 1) k g S T p hk hg R hn hP (by omega) hp hB
      refine Or.inr ⟨S, T1, ?_, z1, R.scr Fr.rf z2⟩
      obtain ⟨f, rfl⟩ : ∃ f1, f = f1 + 1 := ⟨f - 1, by omega⟩
      show f_X6_makeParts_b10 (f_X6_makeParts_l10 j f) j (nI k) S = _
      unfold f_X6_makeParts_b10 f_X6_makeParts_b116 f_X6_makeParts_b131
      rw [q1, if_neg (nI_ge (show k < n2 by omega) (by omega)), (hP.2.2 (by omega)).2, if_neg (show ¬ (1 : Int32) = 0 by decide), if_neg (show ¬ (1 : Int32) = 0 by decide), chk_of i0]
