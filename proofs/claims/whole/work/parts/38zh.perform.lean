/-! ===== perform, the call ===== -/
theorem Fr.pA2 {w : List Nat × List Nat × List Nat × Bool} {k : Nat} {S S1 : St} {v : Nat → Int32} (e : S1 = pA S k v) (h : w.2.1.contains k = true) : Fr w S S1 := by
  subst e; exact ⟨fun _ _ => rfl, fun j q => up_ne (con_ne h q), fun _ _ => rfl, fun _ _ => ⟨rfl, rfl⟩⟩
theorem CutS.perm {X L V Q X' L' V' Q' : Nat → Int32} {p i : Nat} {e : Int} {π : Nat → Nat} (hi : i < p) (hπ : ∀ j, j < p → π j < p) (hs : ∀ a, a < p → ∃ j, j < p ∧ π j = a) (hX : ∀ j, j < p → X' j = X (π j)) (hL : ∀ j, j < p → L' j = L (π j)) (hV : ∀ j, j < p → V' j = V (π j)) (hQ : ∀ j, j < p → Q' j = Q (π j)) (h : CutS X' L' V' Q' p i e) : CutS X L V Q p (π i) e := by
  obtain ⟨h1, h2, h3⟩ := h
  rw [hX i hi, hL i hi] at h1
  refine ⟨h1, fun b hb k1 k2 k3 => ?_, ?_⟩
  · obtain ⟨j, j1, j2⟩ := hs b hb
    subst j2
    have := h2 j j1 (by rw [hV i hi, hV j j1]; exact k1) (by rw [hQ i hi, hQ j j1]; exact k2) (by rw [hX i hi, hX j j1]; exact k3)
    rw [hX j j1] at this
    exact this
  · rcases h3 with h3 | ⟨b, b1, b2, b3, b4⟩
    · rw [hX i hi, hL i hi] at h3; exact Or.inl h3
    · exact Or.inr ⟨π b, hπ b b1, by rw [← hV i hi, ← hV b b1]; exact b2, by rw [← hQ i hi, ← hQ b b1]; exact b3, by rw [← hX b b1]; exact b4⟩
def Wp : List Nat × List Nat × List Nat × Bool := ([21], [42, 43, 44, 45, 46, 47, 48], [], true)
def Wq : List Nat × List Nat × List Nat × Bool := ([34], [66], [], false)
theorem Rel.perf {S S1 T T1 : St} (R : Rel S T) (F : Fr Wp S S1) (G : Fr Wq T T1) (hE : REvents S1 T1) (hO : ROrder S1) : Rel S1 T1 := by
  obtain ⟨r1, r2, r3, r4, r5, r6, r7, r8, r9⟩ := R
  exact ⟨(r1.c (F.1 _ rfl) (F.2.1 _ rfl) (F.2.1 _ rfl) (F.2.1 _ rfl) (F.2.1 _ rfl) (F.2.1 _ rfl)).m (G.1 _ rfl) (G.2.1 _ rfl) (G.2.1 _ rfl) (G.2.1 _ rfl) (G.2.1 _ rfl) (G.2.1 _ rfl), (r2.c (F.1 _ rfl) (F.1 _ rfl)).m (G.1 _ rfl) (G.1 _ rfl), (r3.c (F.1 _ rfl) (F.2.1 _ rfl) (F.2.1 _ rfl) (F.2.1 _ rfl)).m (G.1 _ rfl) (G.2.1 _ rfl) (G.2.1 _ rfl) (G.2.1 _ rfl), (r4.c (F.1 _ rfl) (F.2.1 _ rfl) (F.2.1 _ rfl) (F.2.1 _ rfl)).m (G.1 _ rfl) (G.2.1 _ rfl) (G.2.1 _ rfl) (G.2.1 _ rfl), (r5.c (F.1 _ rfl) (F.2.1 _ rfl)).m (G.1 _ rfl) (G.2.1 _ rfl), (r6.c (F.1 _ rfl) (F.2.1 _ rfl) (F.2.1 _ rfl) (F.2.1 _ rfl) (F.2.1 _ rfl) (F.2.1 _ rfl)).m (G.1 _ rfl) (G.2.1 _ rfl) (G.2.1 _ rfl) (G.2.1 _ rfl) (G.2.1 _ rfl), hE, hO, (G.2.2.1 _ rfl).trans (r9.trans (F.2.2.1 _ rfl).symm)⟩
/-- all parts are made: they are put in order and cut -/
theorem order_both {B : Int32 → Int32} {S T : St} {p k : Nat} (hp : p ≤ 400) (R : Rel S T) (hB : BB S = B) (hP : Ps B S T p k) : ∃ S1 T1, (bnd (f_X1_bend S) (fun _u3 S3 => bnd (f_X5_sort S3) (fun _u4 S4 => bnd (f_X1_takeInOrder S4) (fun _u5 S5 => bnd (f_X1_endAtRepeats S5) (fun _u6 S6 => some (gI S6 21, S6)))))) = some (nI p, S1) ∧ f_X12_perform_l50 fuel (0, pI T 34 (nI p)) = some (nI p, T1) ∧ Rel S1 T1 := by
  obtain ⟨S2, c2, Bt, R2⟩ := bend_ok hp R hB hP
  have hr2 : ROrder S2 := R2.2.2.2.2.2.2.2.1
  obtain ⟨S3, c3, o3, k3, s3⟩ := sort_ok hp hr2 Bt.1
  have F3 := fr_X5_sort S2 c3
  obtain ⟨π, hπ, hsur, hrk⟩ := order_of (key_inj Bt hp) k3 s3
  have hπ1 : ∀ i, i < p → π i < p := fun i hi => (hπ i hi).1
  have rkπ : ∀ i, i < p → cntQ (fun x => decide (x < keyP S2 (π i))) (keyP S2) p = i := fun i hi => by
    have := hrk i hi
    rw [(hπ i hi).2] at this
    exact this
  -- the class takes them
  have e19 : gI S3 19 = nI p := (F3.1 19 rfl).trans Bt.1
  have hpart : ∀ i, i < p → ∀ S', Fr Wt (pI S3 21 (nI p)) S' → f_X5_partAt (nI i) S' = some (nI (π i), S') := by
    intro i hi S' F
    have hL : ∀ x, gL S' x = gL S3 x := fun x => (F.2.2.2 rfl x).1
    have hR : ∀ x, gR S' x = gR S3 x := fun x => (F.2.2.2 rfl x).2
    obtain ⟨u1, u2, u3, u4⟩ := key_int Bt hp (hπ1 i hi)
    have ho : ROrder S' := o3.c hR
    have ev : (gL S' (gR S' 0) i).toInt = 400 * ((((gA S2 32 (π i)).toInt * 4 + (gA S2 38 (π i)).toInt) * 128 + (gA S2 34 (π i)).toInt)) + (π i : Nat) := by
      rw [hR, hL, (hπ i hi).2, u1]; omega
    have hlt := hπ1 i hi
    exact partAt_eq ho (by omega) (by omega) ev (by rw [ev]; omega) (by rw [ev]; omega)
  obtain ⟨S4, c4, F4, h4⟩ := take_loop (S := pI S3 21 (nI p)) hp o3 rfl π hπ1 hpart p 0 fuel (pI S3 21 (nI p)) (by omega) (fuel_gt (by omega)) Fr.rf (fun j h => absurd h (Nat.not_lt_zero j))
  have c4 : f_X1_takeInOrder S3 = some ((), S4) := by
    unfold f_X1_takeInOrder f_X1_takeInOrder_b0
    rw [vlet_eq, e19]
    exact c4
  have h4 : ∀ j, j < p → ∀ c, c < 7 → gA S4 (42 + c) j = gA S2 (32 + c) (π j) := by
    intro j hj c hc
    rw [h4 j hj c hc]
    show gA S3 (32 + c) (π j) = _
    rw [F3.2.1 (32 + c) rfl]
  have e21 : gI S4 21 = nI p := F4.1 21 rfl
  have x42 : ∀ j, j < p → gA S4 42 j = gA S2 32 (π j) := fun j hj => h4 j hj 0 (by omega)
  have x43 : ∀ j, j < p → gA S4 43 j = gA S2 33 (π j) := fun j hj => h4 j hj 1 (by omega)
  have x44 : ∀ j, j < p → gA S4 44 j = gA S2 34 (π j) := fun j hj => h4 j hj 2 (by omega)
  have x46 : ∀ j, j < p → gA S4 46 j = gA S2 36 (π j) := fun j hj => h4 j hj 4 (by omega)
  have x48 : ∀ j, j < p → gA S4 48 j = gA S2 38 (π j) := fun j hj => h4 j hj 6 (by omega)
  have hs : ∀ i j, i ≤ j → j < p → (gA S4 42 i).toInt ≤ (gA S4 42 j).toInt := by
    intro i j hij hj
    rw [x42 i (by omega), x42 j hj]
    have w := le_int64.mp (s3 i j (Nat.zero_le i) hij hj)
    rw [(hπ i (by omega)).2, (hπ j hj).2] at w
    obtain ⟨u1, u2, u3, u4⟩ := key_int Bt hp (hπ1 i (by omega))
    obtain ⟨v1, v2, v3, v4⟩ := key_int Bt hp (hπ1 j hj)
    have w1 := hπ1 i (by omega)
    have w2 := hπ1 j hj
    omega
  obtain ⟨S5, c5, F5, h5⟩ := reps_loop (S := S4) hp e21 hs (fun i hi => by rw [x42 i hi]; exact (Bt.2.2.1 (π i) (hπ1 i hi)).2.1) (fun i hi => by rw [x43 i hi]; exact (Bt.2.2.1 (π i) (hπ1 i hi)).2.2.1) p 0 fuel S4 (by omega) (fuel_gt (by omega)) Fr.rf (fun _ _ _ => rfl) (fun k h => absurd h (Nat.not_lt_zero k))
  have c5 : f_X1_endAtRepeats S4 = some ((), S5) := c5
  -- the reference puts them
  have Bt2 : Bent S2 (pI T 34 (nI p)) p := Bt.m rfl rfl rfl
  obtain ⟨W', m1, m2, m3⟩ := ref_loop Bt2 hp (fun a => cntQ (fun x => decide (x < keyP S2 a)) (keyP S2) p) (fun _ _ => rfl) (fun a ha => by
    obtain ⟨i, i1, i2⟩ := hsur a ha
    subst i2
    rw [rkπ i i1]; exact i1) (fun a b ha hb h => by
    obtain ⟨i, i1, i2⟩ := hsur a ha
    obtain ⟨j, j1, j2⟩ := hsur b hb
    subst i2; subst j2
    rw [rkπ i i1, rkπ j j1] at h
    rw [h]) rfl p 0 fuel (gA (pI T 34 (nI p)) 66) (by omega) (fuel_gt (by omega)) (fun b h => absurd h (Nat.not_lt_zero b)) (fun b h => absurd h (Nat.not_lt_zero b))
  rw [pA_self] at m1
  have i5 : gI S5 21 = nI p := (F5.1 21 rfl).trans e21
  refine ⟨S5, pA (pI T 34 (nI p)) 66 W', ?_, m1, ?_⟩
  · rw [c2, bnd_mk, c3, bnd_mk, c4, bnd_mk, c5, bnd_mk, i5]
  -- the relation
  have FA : Fr Wp S2 S3 := F3.mono rfl rfl rfl rfl
  have FB : Fr Wp S3 (pI S3 21 (nI p)) := Fr.pI rfl rfl
  have FC : Fr Wp (pI S3 21 (nI p)) S4 := F4.mono rfl rfl rfl rfl
  have FD : Fr Wp S4 S5 := F5.mono rfl rfl rfl rfl
  have FF : Fr Wp S2 S5 := ((FA.trans FB).trans FC).trans FD
  have GG : Fr Wq T (pA (pI T 34 (nI p)) 66 W') := (Fr.pI rfl rfl : Fr Wq T (pI T 34 (nI p))).trans (Fr.pA2 rfl rfl)
  have hO : ROrder S5 := (o3.c (S1 := S4) (fun k => (F4.2.2.2 rfl k).2)).c (fun k => (F5.2.2.2 rfl k).2)
  refine R2.perf FF GG ⟨p, hp, i5, rfl, fun i hi => ⟨fun c hc => ?_, ?_⟩, fun i j hij hj => ?_⟩ hO
  · have hpi := hπ1 i hi
    obtain ⟨b1, -⟩ := Bt2.2.2.1 (π i) hpi
    show W' (6 * i + c) = gA S5 (42 + c) i
    by_cases hc1 : c = 1
    · subst hc1
      obtain ⟨r, r1, r2⟩ := m3 (π i) hpi
      rw [rkπ i hi] at r2
      obtain ⟨r', e, d1, d2, d3⟩ := cut_M Bt2 hp hpi
      have er : r' = r := congrArg Prod.fst (Option.some.inj (d1.symm.trans r1))
      subst er
      obtain ⟨e', g1, g2⟩ := h5 i hi
      have g3 := g2.perm hi hπ1 hsur x42 x43 x48 x44
      have ee := d3.uniq g3
      rw [r2]
      refine eq_int.mpr ?_
      show r'.toInt = (gA S5 43 i).toInt
      rw [g1, d2, x42 i hi, ee]
    · have q := m2 (π i) hpi c hc hc1
      rw [rkπ i hi] at q
      rw [q, b1 c hc]
      have f5 : gA S5 (42 + c) = gA S4 (42 + c) := F5.2.1 _ (all_not (l := [43]) (p := fun k => decide (k = 43)) rfl (decide_eq_false (by omega)))
      rw [f5, h4 i hi c (by omega)]
  · obtain ⟨-, -, -, ⟨j, j1, j2, j3, j4, j5⟩, -, -⟩ := Bt.2.2.1 (π i) (hπ1 i hi)
    have f46 : gA S5 46 = gA S4 46 := F5.2.1 46 rfl
    have f48 : gA S5 48 = gA S4 48 := F5.2.1 48 rfl
    have f13 : gA S5 13 = gA S2 13 := FF.2.1 13 rfl
    have f2 : gI S5 2 = gI S2 2 := FF.1 2 rfl
    refine ⟨j, by rw [f2]; exact j2, j1, ?_, ?_⟩
    · rw [f46, x46 i hi]; exact j3
    · rw [f48, x48 i hi, f13]; exact j4
  · have f42 : gA S5 42 = gA S4 42 := F5.2.1 42 rfl
    rw [f42]
    exact le_int.mpr (hs i j hij hj)
theorem op_perform : Op f_X11_perform f_X12_perform := by
  intro S T R
  obtain ⟨n, hn, q1, q2, q3⟩ := R.1
  have F0 : Fr Wc S (pI (pI S 19 0) 20 0) := (Fr.pI rfl rfl : Fr Wc S (pI S 19 0)).trans (Fr.pI rfl rfl)
  have G0 : Fr Wm T (pI T 33 0) := Fr.pI rfl rfl
  have R0 : Rel (pI (pI S 19 0) 20 0) (pI T 33 0) := R.scr F0 G0
  have P0 : Ps (BB (pI (pI S 19 0) 20 0)) (pI (pI S 19 0) 20 0) (pI T 33 0) 0 0 := ⟨rfl, fun _ => ⟨rfl, rfl, fun i h => absurd h (Nat.not_lt_zero i), fun i h => absurd h (Nat.not_lt_zero i), fun i j _ h => absurd h (Nat.not_lt_zero j)⟩, fun h => absurd h (by omega)⟩
  have eM : f_X12_perform T = f_X12_perform_l7 fuel (0, pI T 33 0) := by
    unfold f_X12_perform f_X12_perform_b0; rw [vlet_eq]
  have eC : f_X6_makeParts (gJ S 0) S = f_X6_makeParts_l10 (gJ S 0) fuel (0, pI (pI S 19 0) 20 0) := by
    unfold f_X6_makeParts f_X6_makeParts_b0 f_X1_clear f_X1_clear_b0
    rw [vlet_eq, vlet_eq, bnd_mk]
  rcases make_loop hn (gJ S 0) n 0 fuel fuel (pI (pI S 19 0) 20 0) (pI T 33 0) 0 (by omega) (fuel_gt (by omega)) (fuel_gt (by omega)) R0 q1 rfl P0 (Nat.le_refl 0) rfl with ⟨S1, T1, p, hp, c1, m1, R1, P1, B1⟩ | ⟨S1, T1, c1, m1, R1⟩
  · obtain ⟨S2, T2, c2, m2, R2⟩ := order_both hp R1 B1 P1
    refine ⟨nI p, S2, T2, ?_, ?_, R2⟩
    · unfold f_X11_perform f_X11_perform_b0
      have c1 : f_X6_makeParts_l10 (gJ S 0) fuel (0, pI (pI S 19 0) 20 0) = some (1, S1) := c1
      rw [eC, c1, bnd_mk, if_neg (show ¬ (1 : Int32) = 0 by decide)]
      exact c2
    · rw [eM]
      exact Eq.trans m1 m2
  · refine ⟨-1004, S1, T1, ?_, ?_, R1⟩
    · unfold f_X11_perform f_X11_perform_b0
      have c1 : f_X6_makeParts_l10 (gJ S 0) fuel (0, pI (pI S 19 0) 20 0) = some (0, S1) := c1
      rw [eC, c1, bnd_mk, if_pos rfl]
    · rw [eM]; exact m1
