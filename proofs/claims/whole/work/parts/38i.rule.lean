/-! ===== read: a rule ===== -/
def nextF (n : Nat) (B : Nat → Int32) (p : Nat) : Nat := skipF B (endF n B p) (n - endF n B p)
def RowC (S S1 : St) (m : Nat) (v nm x r : Int32) : Prop := (gA S1 26 m = v ∧ gA S1 27 m = nm ∧ gA S1 28 m = x ∧ gA S1 29 m = r) ∧ ∀ k, k ≠ m → gA S1 26 k = gA S 26 k ∧ gA S1 27 k = gA S 27 k ∧ gA S1 28 k = gA S 28 k ∧ gA S1 29 k = gA S 29 k
def RowM (T T1 : St) (m : Nat) (v nm x r : Int32) : Prop := (gA T1 60 m = v ∧ gA T1 61 m = nm ∧ gA T1 62 m = x ∧ gA T1 63 m = r) ∧ ∀ k, k ≠ m → gA T1 60 k = gA T 60 k ∧ gA T1 61 k = gA T 61 k ∧ gA T1 62 k = gA T 62 k ∧ gA T1 63 k = gA T 63 k
/-- the next piece, in both -/
theorem next_C {n : Nat} {B : Nat → Int32} (b : BOk n B) {S : St} {p : Nat} (hp : p ≤ n) (hP : PcC S n B p) (hT : TpC S n B) : ∃ S1, f_X7_takePiece S = some ((), S1) ∧ PcC S1 n B (nextF n B p) ∧ TpC S1 n B ∧ gI S1 7 = gI S 7 ∧ gI S1 6 = gI S 6 ∧ (∀ k, gA S1 k = gA S k) ∧ gI S1 11 = gI S 11 := by
  obtain ⟨S1, k1, k2, k3, k4⟩ := take_C b (endF_ge hp b).2 hP.2.2 hT
  have F := fr_X7_takePiece S k1
  exact ⟨S1, k1, ⟨k2, k3, k4⟩, hT.c (F.1 5 rfl) (F.2.1 24 rfl), F.1 7 rfl, F.1 6 rfl, fun k => F.2.1 k rfl, F.1 11 rfl⟩
theorem next_M {n : Nat} {B : Nat → Int32} (b : BOk n B) {T : St} {p : Nat} (hp : p ≤ n) (h0 : ¬ kd (B p) = 0) (hP : PcM T n B p) (hT : TpM T n B) : ∃ T1, f_X12_take T = some ((), T1) ∧ PcM T1 n B (nextF n B p) ∧ TpM T1 n B ∧ gI T1 28 = gI T 28 ∧ (∀ k, gA T1 k = gA T k) := by
  obtain ⟨T1, k1, k2⟩ := take_M b (endF_ge hp b).2 (by rw [hP.2.2.1, if_neg h0]) hT
  have F := fr_X12_take T k1
  exact ⟨T1, k1, k2, hT.m (F.1 29 rfl) (F.2.1 64 rfl), F.1 28 rfl, fun k => F.2.1 k rfl⟩
theorem full_eq (S : St) : f_X8_areFull S = some (if gI S 7 < 24 then 0 else 1, S) := by
  unfold f_X8_areFull f_X8_areFull_b0 f_X8_areFull_b14
  have i0 : isB 0 = true := rfl
  have i1 : isB 1 = true := rfl
  rw [chk_of i0, chk_of i1]
  split <;> rfl
theorem stage_1 {S2 : St} {m : Nat} (e7 : gI S2 7 = nI m) (hm : m < 24) : f_X8_areFull S2 = some (0, S2) := by
  have gl : nI m < 24 := nI_lt (b := 24) hm (by omega)
  rw [full_eq, e7]; exact congrArg (fun q => some (q, S2)) (if_pos gl)
theorem stage_2 {S2 : St} (v r nm x : Int32) (ef : f_X8_areFull S2 = some (0, S2)) (g1 : inb (gI S2 7) 24 = true) : f_X8_stage v nm x r S2 = some ((), pI (wr (wr (wr (wr S2 26 (gI S2 7) v) 27 (gI S2 7) nm) 28 (gI S2 7) x) 29 (gI S2 7) r) 7 (gI S2 7 + 1)) := by
  unfold f_X8_stage f_X8_stage_b0
  rw [ef, bnd_mk]
  simp only [reduceIte, vlet_eq, gI_wr, chk_of g1]
theorem stage_eq {S2 : St} {m : Nat} (e7 : gI S2 7 = nI m) (hm : m < 24) (v r nm x : Int32) : f_X8_stage v nm x r S2 = some ((), pI (wr (wr (wr (wr S2 26 (nI m) v) 27 (nI m) nm) 28 (nI m) x) 29 (nI m) r) 7 (nI (m + 1))) := by
  have h := stage_2 v r nm x (stage_1 e7 hm) (by rw [e7]; exact inb_nI hm (by omega))
  rw [e7, nI_1] at h
  exact h
theorem stage_row {S S2 : St} {m : Nat} (hm : m < 24) (k6 : ∀ k, gA S2 k = gA S k) (v r nm x : Int32) : RowC S (pI (wr (wr (wr (wr S2 26 (nI m) v) 27 (nI m) nm) 28 (nI m) x) 29 (nI m) r) 7 (nI (m + 1))) m v nm x r := by
  have g2 : (nI m).toNatClampNeg = m := nI_clamp (by omega)
  refine ⟨⟨?_, ?_, ?_, ?_⟩, fun k hk => ⟨?_, ?_, ?_, ?_⟩⟩
  · simp only [gA_pI, gA_wr, reduceIte, Nat.reduceEqDiff, g2, upd_at]
  · simp only [gA_pI, gA_wr, reduceIte, Nat.reduceEqDiff, g2, upd_at]
  · simp only [gA_pI, gA_wr, reduceIte, Nat.reduceEqDiff, g2, upd_at]
  · simp only [gA_pI, gA_wr, reduceIte, Nat.reduceEqDiff, g2, upd_at]
  · simp only [gA_pI, gA_wr, reduceIte, Nat.reduceEqDiff, g2, upd_at, if_neg hk, k6]
  · simp only [gA_pI, gA_wr, reduceIte, Nat.reduceEqDiff, g2, upd_at, if_neg hk, k6]
  · simp only [gA_pI, gA_wr, reduceIte, Nat.reduceEqDiff, g2, upd_at, if_neg hk, k6]
  · simp only [gA_pI, gA_wr, reduceIte, Nat.reduceEqDiff, g2, upd_at, if_neg hk, k6]
theorem end_C {n : Nat} {B : Nat → Int32} (b : BOk n B) {S : St} {p m : Nat} (hp : p ≤ n) (hP : PcC S n B p) (hT : TpC S n B) (h7 : gI S 7 = nI m) (hm : m < 24) (v r nm x : Int32) : (B p = 59 → ∃ S1, f_X7_takeRule_b128 v r nm x S = some (1, S1) ∧ PcC S1 n B (nextF n B p) ∧ TpC S1 n B ∧ gI S1 7 = nI (m + 1) ∧ gI S1 6 = gI S 6 ∧ RowC S S1 m v nm x r) ∧ (¬ B p = 59 → f_X7_takeRule_b128 v r nm x S = some (0, S)) := by
  have hn := b.1
  unfold f_X7_takeRule_b128
  rw [hP.1, at_C hT b (by omega), bnd_mk]
  refine ⟨fun h => ?_, fun h => by rw [if_neg h]⟩
  rw [if_pos h]
  obtain ⟨S2, k1, k2, k3, k4, k5, k6, _⟩ := next_C b hp hP hT
  rw [k1, bnd_mk]
  have e7 : gI S2 7 = nI m := k4.trans h7
  rw [stage_eq e7 hm, bnd_mk]
  exact ⟨_, rfl, k2, k3.c rfl rfl, gI_pI _ _ _ _ |>.trans (if_pos rfl), k5, stage_row hm k6 v r nm x⟩
theorem end_M {n : Nat} {B : Nat → Int32} {T : St} {p : Nat} (hP : PcM T n B p) : (B p = 59 → f_X12_takeRule_b209 T = some (1, T)) ∧ (¬ B p = 59 → f_X12_takeRule_b209 T = some (0, T)) := by
  unfold f_X12_takeRule_b209 f_X12_takeRule_b222
  have i0 : isB 0 = true := rfl
  have i1 : isB 1 = true := rfl
  rw [hP.2.1, chk_of i0, chk_of i1]
  exact ⟨fun h => if_pos ((sort_3 _).mpr h), fun h => if_neg (fun q => h ((sort_3 _).mp q))⟩
def KeepAt (S S1 T T1 : St) (m : Nat) : Prop := (∀ k, k ≠ m → gA S1 26 k = gA S 26 k ∧ gA S1 27 k = gA S 27 k ∧ gA S1 28 k = gA S 28 k ∧ gA S1 29 k = gA S 29 k) ∧ (∀ k, k ≠ m → gA T1 60 k = gA T 60 k ∧ gA T1 61 k = gA T 61 k ∧ gA T1 62 k = gA T 62 k ∧ gA T1 63 k = gA T 63 k)
theorem KeepAt.rf {S T : St} {m : Nat} : KeepAt S S T T m := ⟨fun _ _ => ⟨rfl, rfl, rfl, rfl⟩, fun _ _ => ⟨rfl, rfl, rfl, rfl⟩⟩
/-- how a rule's reading ends: a fault at the same place, or a rule, the same -/
def Ends (n : Nat) (B : Nat → Int32) (S T : St) (m : Nat) (v nm x : Int32) (o1 o2 : Option (Int32 × St)) : Prop := (∃ S1 T1 p, o1 = some (0, S1) ∧ o2 = some (0, T1) ∧ gI S1 8 = nI p ∧ gI T1 31 = nI p ∧ p ≤ n ∧ KeepAt S S1 T T1 m) ∨ (∃ S1 T1 p r, o1 = some (1, S1) ∧ o2 = some (1, T1) ∧ p < n ∧ B p = 59 ∧ PcM T1 n B p ∧ TpM T1 n B ∧ gI T1 28 = gI T 28 ∧ PcC S1 n B (nextF n B p) ∧ TpC S1 n B ∧ gI S1 7 = nI (m + 1) ∧ gI S1 6 = gI S 6 ∧ RowC S S1 m v nm x r ∧ RowM T T1 m v nm x r ∧ 0 ≤ r ∧ r ≤ 9)
theorem rank_both {n : Nat} {B : Nat → Int32} (b : BOk n B) {S T : St} {p m : Nat} (hp : p ≤ n) (hm : m < 24) (hP : PcC S n B p) (hT : TpC S n B) (h7 : gI S 7 = nI m) (hPm : PcM T n B p) (hTm : TpM T n B) (v nm x : Int32) (h60 : gA T 60 m = v) (h61 : gA T 61 m = nm) (h62 : gA T 62 m = x) (h63 : gA T 63 m = 0) : Ends n B S T m v nm x (bnd (f_X7_isWord 15 S) (fun r12 S11 => if r12 = 0 then (f_X7_takeRule_b128 v 0 nm x S11) else (bnd (f_X7_takePiece S11) (fun _u17 S17 => bnd (f_X7_takeNumber 0 9 S17) (fun r19 S18 => if r19 = 0 then (some (0, S18)) else (vlet (gI S18 11) (fun x20 => f_X7_takeRule_b128 v x20 nm x S18))))))) (if (gI T 30) = 1 then (bnd (f_X12_word 114 97 110 107 0 0 T) (fun r16 S15 => if (lg_cmp (gJ T 2) r16) = 0 then (bnd (f_X12_take S15) (fun _u17 S17 => bnd (f_X12_isNumber 0 9 S17) (fun r19 S18 => if r19 = 0 then (some (0, S18)) else (chk (inb (nI m) 24) (vlet (wr S18 63 (nI m) (Int64.toInt32 (gJ S18 2))) (fun S20 => bnd (f_X12_take S20) (fun _u21 S21 => f_X12_takeRule_b209 S21))))))) else (f_X12_takeRule_b209 S15))) else (f_X12_takeRule_b209 T)) := by
  have hn := b.1
  obtain ⟨r, w1, w2, w3⟩ := isWord_C b hT hP hp (wdOk (show 15 < 16 by omega))
  rw [w1, bnd_mk, rank_M, bnd_mk]
  have done : ∀ (S2 T2 : St) (q : Nat) (rk : Int32), q ≤ n → PcC S2 n B q → TpC S2 n B → gI S2 7 = nI m → gI S2 6 = gI S 6 → (∀ k, gA S2 k = gA S k) → PcM T2 n B q → TpM T2 n B → gI T2 28 = gI T 28 → RowM T T2 m v nm x rk → 0 ≤ rk → rk ≤ 9 → Ends n B S T m v nm x (f_X7_takeRule_b128 v rk nm x S2) (f_X12_takeRule_b209 T2) := by
    intro S2 T2 q rk hq a1 a2 a3 a4 a5 b1 b2 b3 b4 b5 b6
    have hc := end_C b hq a1 a2 a3 hm v rk nm x
    have hM := end_M b1
    by_cases h : B q = 59
    · obtain ⟨S1, k1, k2, k3, k4, k5, k6⟩ := hc.1 h
      have hqn : q < n := by
        rcases Nat.lt_or_ge q n with z | z
        · exact z
        · rw [b.2.2 q z] at h; exact absurd h (by decide)
      refine .inr ⟨S1, T2, q, rk, k1, hM.1 h, hqn, h, b1, b2, b3, k2, k3, k4, k5.trans a4, ⟨k6.1, fun k hk => ?_⟩, b4, b5, b6⟩
      have := k6.2 k hk
      rw [a5, a5, a5, a5] at this; exact this
    · exact .inl ⟨S2, T2, q, hc.2 h, hM.2 h, a1.1, b1.1, hq, fun k _ => ⟨congrFun (a5 26) k, congrFun (a5 27) k, congrFun (a5 28) k, congrFun (a5 29) k⟩, b4.2⟩
  have plain : Ends n B S T m v nm x (f_X7_takeRule_b128 v 0 nm x S) (f_X12_takeRule_b209 T) := done S T p 0 hp hP hT h7 rfl (fun _ => rfl) hPm hTm rfl ⟨⟨h60, h61, h62, h63⟩, fun k _ => ⟨rfl, rfl, rfl, rfl⟩⟩ (by decide) (by decide)
  by_cases hr : r = 1
  · obtain ⟨c2, hw⟩ := w3.mp hr
    rw [if_neg (show ¬ r = 0 by rw [hr]; decide), hPm.2.1, if_pos ((sort_1 _).mpr c2), if_pos (cmp_eq.mpr ((hPm.2.2.2.1 c2).trans hw))]
    obtain ⟨S2, k1, k2, k3, k4, k5, k6, _⟩ := next_C b hp hP hT
    obtain ⟨T2, m1, m2, m3, m4, m5⟩ := next_M b hp (by rw [c2]; decide) hPm hTm
    have hq : nextF n B p ≤ n := nextF_le b hp
    rw [k1, bnd_mk, m1, bnd_mk, num_M m2, bnd_mk]
    obtain ⟨r2, S3, z1, z2⟩ := num_C b k3 k2 hq 0 9 (by decide)
    rw [z1, bnd_mk]
    rcases z2 with ⟨y1, y2, y3⟩ | ⟨y1, y2, y3, y4, y5, y6⟩
    · rw [y1, if_pos rfl, if_neg y2, if_pos rfl]
      have F := fr_X7_takeNumber 0 9 S2 z1
      exact .inl ⟨S3, T2, nextF n B p, rfl, rfl, y3, m2.1, hq, fun k _ => ⟨congrFun ((F.2.1 26 rfl).trans (k6 26)) k, congrFun ((F.2.1 27 rfl).trans (k6 27)) k, congrFun ((F.2.1 28 rfl).trans (k6 28)) k, congrFun ((F.2.1 29 rfl).trans (k6 29)) k⟩, fun k _ => ⟨congrFun (m5 60) k, congrFun (m5 61) k, congrFun (m5 62) k, congrFun (m5 63) k⟩⟩
    · rw [y1, if_neg (by decide), if_pos y2, if_neg (by decide), chk_of (inb_nI hm (by omega)), vlet_eq, vlet_eq]
      have F := fr_X7_takeNumber 0 9 S2 z1
      have g2 : (nI m).toNatClampNeg = m := nI_clamp (by omega)
      obtain ⟨T4, q1, q2, q3, q4, q5⟩ := next_M (T := wr T2 63 (nI m) (Int64.toInt32 (gJ T2 2))) b hq (by rw [y2.1]; decide) m2 (m3.m rfl rfl)
      rw [q1, bnd_mk]
      refine done S3 T4 _ _ (nextF_le b hq) y3 (k3.c (F.1 5 rfl) (F.2.1 24 rfl)) ((F.1 7 rfl).trans (k4.trans h7)) ((F.1 6 rfl).trans k5) (fun k => (F.2.1 k rfl).trans (k6 k)) q2 q3 (q4.trans m4) ⟨⟨?_, ?_, ?_, ?_⟩, fun k hk => ⟨?_, ?_, ?_, ?_⟩⟩ y5 y6
      · rw [q5]; simp only [gA_wr, reduceIte, Nat.reduceEqDiff, m5]; exact h60
      · rw [q5]; simp only [gA_wr, reduceIte, Nat.reduceEqDiff, m5]; exact h61
      · rw [q5]; simp only [gA_wr, reduceIte, Nat.reduceEqDiff, m5]; exact h62
      · rw [q5]; simp only [gA_wr, reduceIte, g2, upd_at]; rw [m2.2.2.2.2 y2.1]; exact y4.symm
      · rw [q5]; simp only [gA_wr, reduceIte, Nat.reduceEqDiff, m5]
      · rw [q5]; simp only [gA_wr, reduceIte, Nat.reduceEqDiff, m5]
      · rw [q5]; simp only [gA_wr, reduceIte, Nat.reduceEqDiff, m5]
      · rw [q5]; simp only [gA_wr, reduceIte, g2, upd_at, if_neg hk, m5]
  · have h0 : r = 0 := by
      rcases w2 with q | q
      · exact q
      · exact absurd q hr
    rw [if_pos h0]
    by_cases c2 : kd (B p) = 2
    · rw [hPm.2.1, if_pos ((sort_1 _).mpr c2), if_neg (fun q => hr (w3.mpr ⟨c2, (hPm.2.2.2.1 c2).symm.trans (cmp_eq.mp q)⟩))]
      exact plain
    · rw [hPm.2.1, if_neg (fun q => c2 ((sort_1 _).mp q))]
      exact plain
