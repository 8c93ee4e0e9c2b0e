/-! ===== read: a rule, whole ===== -/
theorem Ends.mono {n : Nat} {B : Nat → Int32} {S S2 T T2 : St} {m : Nat} {v nm x : Int32} {o1 o2 : Option (Int32 × St)} (h : Ends n B S2 T2 m v nm x o1 o2) (hS : ∀ k, gA S2 k = gA S k) (h6 : gI S2 6 = gI S 6) (h28 : gI T2 28 = gI T 28) (hT : ∀ k, k ≠ m → gA T2 60 k = gA T 60 k ∧ gA T2 61 k = gA T 61 k ∧ gA T2 62 k = gA T 62 k ∧ gA T2 63 k = gA T 63 k) : Ends n B S T m v nm x o1 o2 := by
  rcases h with h | ⟨S1, T1, p, r, a1, a2, a3, a4, a5, a6, a7, a8, a9, a10, a11, a12, a13, a14⟩
  · obtain ⟨S1, T1, p, b1, b2, b3, b4, b5, b6, b7⟩ := h
    refine .inl ⟨S1, T1, p, b1, b2, b3, b4, b5, fun k hk => ?_, fun k hk => ?_⟩
    · have := b6 k hk
      rw [hS, hS, hS, hS] at this; exact this
    · obtain ⟨z1, z2, z3, z4⟩ := b7 k hk
      obtain ⟨y1, y2, y3, y4⟩ := hT k hk
      exact ⟨z1.trans y1, z2.trans y2, z3.trans y3, z4.trans y4⟩
  · refine .inr ⟨S1, T1, p, r, a1, a2, a3, a4, a5, a6, a7.trans h28, a8, a9, a10, a11.trans h6, ⟨a12.1, fun k hk => ?_⟩, ⟨a13.1, fun k hk => ?_⟩, a14⟩
    · have := a12.2 k hk
      rw [hS, hS, hS, hS] at this; exact this
    · obtain ⟨z1, z2, z3, z4⟩ := a13.2 k hk
      obtain ⟨y1, y2, y3, y4⟩ := hT k hk
      exact ⟨z1.trans y1, z2.trans y2, z3.trans y3, z4.trans y4⟩
theorem bounds_M (T : St) : ∀ k, k < 13 → f_X12_lowest (nI k) T = some (tbr 1 (nI k), T) ∧ f_X12_highest (nI k) T = some (tbr 2 (nI k), T) ∧ inb (nI k) 13 = true ∧ (tbr 2 (nI k)).toInt ≤ 100000 := by
  intro m hm
  have hs : m = 0 ∨ m = 1 ∨ m = 2 ∨ m = 3 ∨ m = 4 ∨ m = 5 ∨ m = 6 ∨ m = 7 ∨ m = 8 ∨ m = 9 ∨ m = 10 ∨ m = 11 ∨ m = 12 := by omega
  rcases hs with rfl | rfl | rfl | rfl | rfl | rfl | rfl | rfl | rfl | rfl | rfl | rfl | rfl <;> exact ⟨rfl, rfl, rfl, by decide⟩
def EndsX (n : Nat) (B : Nat → Int32) (S T : St) (m : Nat) (v : Int32) (o1 o2 : Option (Int32 × St)) : Prop := ∃ nm x, (0 ≤ nm ∧ nm ≤ 12) ∧ (tbr 1 nm ≤ x ∧ x ≤ tbr 2 nm) ∧ Ends n B S T m v nm x o1 o2
theorem EndsX.fail {n : Nat} {B : Nat → Int32} {S T S1 T1 : St} {m p : Nat} {v : Int32} (h1 : gI S1 8 = nI p) (h2 : gI T1 31 = nI p) (hp : p ≤ n) (hk : KeepAt S S1 T T1 m) : EndsX n B S T m v (some (0, S1)) (some (0, T1)) :=
  ⟨0, tbr 1 0, ⟨by decide, by decide⟩, ⟨by decide, by decide⟩, .inl ⟨S1, T1, p, rfl, rfl, h1, h2, hp, hk⟩⟩
theorem name_part {n : Nat} {B : Nat → Int32} (b : BOk n B) {S T : St} {p m : Nat} (hp : p ≤ n) (hm : m < 24) (hP : PcC S n B p) (hT : TpC S n B) (h7 : gI S 7 = nI m) (hPm : PcM T n B p) (hTm : TpM T n B) (v : Int32) (h60 : gA T 60 m = v) (h63 : gA T 63 m = 0) : EndsX n B S T m v (f_X7_takeRule_b46 v 0 S) (f_X12_takeRule_b82 (nI m) T) := by
  have hn := b.1
  have g1 : inb (nI m) 24 = true := inb_nI hm (by omega)
  have g2 : (nI m).toNatClampNeg = m := nI_clamp (by omega)
  obtain ⟨r, k1, k2, k3, k4⟩ := name_both b (T := T) hT hP hp hPm.2.2.2.1
  unfold f_X7_takeRule_b46 f_X12_takeRule_b82 f_X12_takeRule_b98
  rw [k1, bnd_mk, hPm.2.1]
  rcases k4 with hr | ⟨w, w1, w2, c2⟩
  · rw [if_pos hr]
    by_cases c2 : kd (B p) = 2
    · rw [if_pos ((sort_1 _).mpr c2), k2 c2, bnd_mk, if_pos hr]
      exact EndsX.fail hP.1 hPm.1 hp KeepAt.rf
    · rw [if_neg (fun q => c2 ((sort_1 _).mp q)), if_pos rfl]
      exact EndsX.fail hP.1 hPm.1 hp KeepAt.rf
  · have hr : ¬ r = -1 := by rw [w2]; exact nI_m1 (by omega)
    rw [if_neg hr, if_pos ((sort_1 _).mpr c2), k2 c2, bnd_mk, if_neg hr, w2, chk_of g1, vlet_eq]
    obtain ⟨l1, l2, l3, l4⟩ := bounds_M T w w1
    obtain ⟨S2, a1, a2, a3, a4, a5, a6, _⟩ := next_C b hp hP hT
    obtain ⟨T2, m1, m2, m3, m4, m5⟩ := next_M (T := wr T 61 (nI m) (nI w)) b hp (by rw [c2]; decide) hPm (hTm.m rfl rfl)
    have hq : nextF n B p ≤ n := nextF_le b hp
    rw [a1, bnd_mk, chk_of l3, chk_of l3, m1, bnd_mk, (bounds_M T2 w w1).1, bnd_mk, (bounds_M T2 w w1).2.1, bnd_mk, num_M m2, bnd_mk]
    obtain ⟨r2, S3, z1, z2⟩ := num_C b a3 a2 hq (tbr 1 (nI w)) (tbr 2 (nI w)) l4
    rw [z1, bnd_mk]
    rcases z2 with ⟨y1, y2, y3⟩ | ⟨y1, y2, y3, y4, y5, y6⟩
    · rw [y1, if_pos rfl, if_neg y2, if_pos rfl]
      have F := fr_X7_takeNumber _ _ S2 z1
      refine EndsX.fail y3 m2.1 hq ⟨fun k _ => ⟨congrFun ((F.2.1 26 rfl).trans (a6 26)) k, congrFun ((F.2.1 27 rfl).trans (a6 27)) k, congrFun ((F.2.1 28 rfl).trans (a6 28)) k, congrFun ((F.2.1 29 rfl).trans (a6 29)) k⟩, fun k hk => ⟨?_, ?_, ?_, ?_⟩⟩
      · rw [m5]; rfl
      · rw [m5]; simp only [gA_wr, reduceIte, g2, upd_at, if_neg hk]
      · rw [m5]; rfl
      · rw [m5]; rfl
    · rw [y1, if_neg (by decide), if_pos y2, if_neg (by decide), chk_of g1, vlet_eq, vlet_eq]
      have F := fr_X7_takeNumber _ _ S2 z1
      obtain ⟨T4, q1, q2, q3, q4, q5⟩ := next_M (T := wr T2 62 (nI m) (Int64.toInt32 (gJ T2 2))) b hq (by rw [y2.1]; decide) m2 (m3.m rfl rfl)
      rw [q1, bnd_mk]
      have R := rank_both b (nextF_le b hq) hm y3 (a3.c (F.1 5 rfl) (F.2.1 24 rfl)) ((F.1 7 rfl).trans (a4.trans h7)) q2 q3 v (nI w) (gI S3 11) (by rw [q5]; simp only [gA_wr, reduceIte, Nat.reduceEqDiff, m5]; exact h60) (by rw [q5]; simp only [gA_wr, reduceIte, Nat.reduceEqDiff, m5, g2, upd_at]) (by rw [q5]; simp only [gA_wr, reduceIte, g2, upd_at]; rw [m2.2.2.2.2 y2.1]; exact y4.symm) (by rw [q5]; simp only [gA_wr, reduceIte, Nat.reduceEqDiff, m5]; exact h63)
      have R2 := R.mono (S := S) (T := T) (fun k => (F.2.1 k rfl).trans (a6 k)) ((F.1 6 rfl).trans a5) (q4.trans m4) (fun k hk => by
        refine ⟨?_, ?_, ?_, ?_⟩
        · rw [q5]; simp only [gA_wr, reduceIte, Nat.reduceEqDiff, m5]
        · rw [q5]; simp only [gA_wr, reduceIte, Nat.reduceEqDiff, m5, g2, upd_at, if_neg hk]
        · rw [q5]; simp only [gA_wr, reduceIte, Nat.reduceEqDiff, m5, g2, upd_at, if_neg hk]
        · rw [q5]; simp only [gA_wr, reduceIte, Nat.reduceEqDiff, m5])
      exact ⟨nI w, gI S3 11, ⟨nI_pos' (by omega), nI_le (b := 12) (by omega) (by omega)⟩, ⟨y5, y6⟩, R2⟩
theorem rule_both {n : Nat} {B : Nat → Int32} (b : BOk n B) {S T : St} {p m : Nat} (hp : p ≤ n) (hm : m ≤ 24) (hP : PcC S n B p) (hT : TpC S n B) (h7 : gI S 7 = nI m) (hPm : PcM T n B p) (hTm : TpM T n B) : (∃ S1 T1 q, f_X7_takeRule S = some (0, S1) ∧ f_X12_takeRule (nI m) T = some (0, T1) ∧ gI S1 8 = nI q ∧ gI T1 31 = nI q ∧ q ≤ n ∧ KeepAt S S1 T T1 m) ∨ (m < 24 ∧ ∃ v nm x r S1 T1 q, f_X7_takeRule S = some (1, S1) ∧ f_X12_takeRule (nI m) T = some (1, T1) ∧ q < n ∧ B q = 59 ∧ PcM T1 n B q ∧ TpM T1 n B ∧ gI T1 28 = gI T 28 ∧ PcC S1 n B (nextF n B q) ∧ TpC S1 n B ∧ gI S1 7 = nI (m + 1) ∧ gI S1 6 = gI S 6 ∧ RowC S S1 m v nm x r ∧ RowM T T1 m v nm x r ∧ RuleOk v nm x r) := by
  have hn := b.1
  have fin : ∀ (v : Int32) (o1 o2 : Option (Int32 × St)), (-1 ≤ v ∧ v ≤ 3) → f_X7_takeRule S = o1 → f_X12_takeRule (nI m) T = o2 → m < 24 → EndsX n B S T m v o1 o2 → (∃ S1 T1 q, f_X7_takeRule S = some (0, S1) ∧ f_X12_takeRule (nI m) T = some (0, T1) ∧ gI S1 8 = nI q ∧ gI T1 31 = nI q ∧ q ≤ n ∧ KeepAt S S1 T T1 m) ∨ (m < 24 ∧ ∃ v nm x r S1 T1 q, f_X7_takeRule S = some (1, S1) ∧ f_X12_takeRule (nI m) T = some (1, T1) ∧ q < n ∧ B q = 59 ∧ PcM T1 n B q ∧ TpM T1 n B ∧ gI T1 28 = gI T 28 ∧ PcC S1 n B (nextF n B q) ∧ TpC S1 n B ∧ gI S1 7 = nI (m + 1) ∧ gI S1 6 = gI S 6 ∧ RowC S S1 m v nm x r ∧ RowM T T1 m v nm x r ∧ RuleOk v nm x r) := by
    intro v o1 o2 hv e1 e2 hlt hE
    obtain ⟨nm, x, u1, u2, hE⟩ := hE
    rcases hE with ⟨S1, T1, q, a1, a2, a3, a4, a5⟩ | ⟨S1, T1, q, r, a1, a2, a3, a4, a5, a6, a7, a8, a9, a10, a11, a12, a13, a14⟩
    · exact .inl ⟨S1, T1, q, e1.trans a1, e2.trans a2, a3, a4, a5⟩
    · exact .inr ⟨hlt, v, nm, x, r, S1, T1, q, e1.trans a1, e2.trans a2, a3, a4, a5, a6, a7, a8, a9, a10, a11, a12, a13, hv, u1, u2, a14⟩
  rcases Nat.lt_or_eq_of_le hm with hlt | heq
  case inr =>
    subst heq
    refine .inl ⟨S, T, p, ?_, ?_, hP.1, hPm.1, hp, KeepAt.rf⟩
    · unfold f_X7_takeRule f_X7_takeRule_b0
      have ef : f_X8_areFull S = some (1, S) := by
        rw [full_eq, h7]; rfl
      rw [ef, bnd_mk]; rfl
    · rfl
  have g1 : inb (nI m) 24 = true := inb_nI hlt (by omega)
  have g2 : (nI m).toNatClampNeg = m := nI_clamp (by omega)
  have gm : ¬ nI m = 24 := fun q => by have := (nI_eq (b := 24) (by omega) (by omega)).mp q; omega
  obtain ⟨r, w1, w2, w3⟩ := isWord_C b hT hP hp (wdOk (show 14 < 16 by omega))
  have eC : f_X7_takeRule S = if r = 0 then f_X7_takeRule_b46 (-1) 0 S else (bnd (f_X7_takePiece S) (fun _u21 S21 => bnd (f_X7_takeNumber 0 3 S21) (fun r23 S22 => if r23 = 0 then (some (0, S22)) else (vlet (gI S22 11) (fun x24 => f_X7_takeRule_b46 x24 0 S22))))) := by
    unfold f_X7_takeRule f_X7_takeRule_b0
    rw [stage_1 h7 hlt, bnd_mk, if_pos rfl, w1, bnd_mk]
  by_cases c2 : kd (B p) = 2
  case neg =>
    have h0 : r = 0 := by
      rcases w2 with q | q
      · exact q
      · exact absurd (w3.mp q).1 c2
    obtain ⟨r6, k1, k2, k3, k4⟩ := name_both b (T := T) hT hP hp hPm.2.2.2.1
    refine .inl ⟨S, T, p, ?_, ?_, hP.1, hPm.1, hp, KeepAt.rf⟩
    · rw [eC, if_pos h0]
      unfold f_X7_takeRule_b46
      rw [k1, bnd_mk, if_pos (k3 c2)]
    · unfold f_X12_takeRule f_X12_takeRule_b0 f_X12_takeRule_b14
      rw [if_neg gm, hPm.2.1, if_neg (fun q => c2 ((sort_1 _).mp q))]
  have eM : f_X12_takeRule (nI m) T = if gJ T 2 = wcF (wdC 14) 0 (wdL 14) then (bnd (f_X12_take (wr (wr T 60 (nI m) (-1)) 63 (nI m) 0)) (fun _u24 S24 => bnd (f_X12_isNumber 0 3 S24) (fun r26 S25 => if r26 = 0 then (some (0, S25)) else (chk (inb (nI m) 24) (vlet (wr S25 60 (nI m) (Int64.toInt32 (gJ S25 2))) (fun S27 => bnd (f_X12_take S27) (fun _u28 S28 => f_X12_takeRule_b82 (nI m) S28))))))) else f_X12_takeRule_b82 (nI m) (wr (wr T 60 (nI m) (-1)) 63 (nI m) 0) := by
    unfold f_X12_takeRule f_X12_takeRule_b0
    rw [if_neg gm, hPm.2.1, if_pos ((sort_1 _).mpr c2), chk_of g1, vlet_eq, chk_of g1, vlet_eq, voice_M, bnd_mk, gJ_wr, gJ_wr]
    by_cases q : gJ T 2 = wcF (wdC 14) 0 (wdL 14)
    · rw [if_pos q, if_pos (cmp_eq.mpr q)]
    · rw [if_neg q, if_neg (fun h => q (cmp_eq.mp h))]
  have keep : ∀ k, k ≠ m → gA (wr (wr T 60 (nI m) (-1)) 63 (nI m) 0) 60 k = gA T 60 k ∧ gA (wr (wr T 60 (nI m) (-1)) 63 (nI m) 0) 61 k = gA T 61 k ∧ gA (wr (wr T 60 (nI m) (-1)) 63 (nI m) 0) 62 k = gA T 62 k ∧ gA (wr (wr T 60 (nI m) (-1)) 63 (nI m) 0) 63 k = gA T 63 k := by
    intro k hk
    refine ⟨?_, rfl, rfl, ?_⟩
    · simp only [gA_wr, reduceIte, Nat.reduceEqDiff, g2, upd_at, if_neg hk]
    · simp only [gA_wr, reduceIte, Nat.reduceEqDiff, g2, upd_at, if_neg hk]
  have s60 : gA (wr (wr T 60 (nI m) (-1)) 63 (nI m) 0) 60 m = -1 := by simp only [gA_wr, reduceIte, Nat.reduceEqDiff, g2, upd_at]
  have s63 : gA (wr (wr T 60 (nI m) (-1)) 63 (nI m) 0) 63 m = 0 := by simp only [gA_wr, reduceIte, Nat.reduceEqDiff, g2, upd_at]
  have hPm2 : PcM (wr (wr T 60 (nI m) (-1)) 63 (nI m) 0) n B p := hPm
  have hTm2 : TpM (wr (wr T 60 (nI m) (-1)) 63 (nI m) 0) n B := hTm.m rfl rfl
  have h28 : gI (wr (wr T 60 (nI m) (-1)) 63 (nI m) 0) 28 = gI T 28 := rfl
  generalize wr (wr T 60 (nI m) (-1)) 63 (nI m) 0 = T2 at eM keep s60 s63 hPm2 hTm2 h28
  by_cases hr : r = 1
  · have hw := (w3.mp hr).2
    rw [if_neg (show ¬ r = 0 by rw [hr]; decide)] at eC
    rw [if_pos ((hPm.2.2.2.1 c2).trans hw)] at eM
    obtain ⟨S2, a1, a2, a3, a4, a5, a6, _⟩ := next_C b hp hP hT
    obtain ⟨T3, m1, m2, m3, m4, m5⟩ := next_M b hp (by rw [c2]; decide) hPm2 hTm2
    have hq : nextF n B p ≤ n := nextF_le b hp
    rw [a1, bnd_mk] at eC
    rw [m1, bnd_mk, num_M m2, bnd_mk] at eM
    obtain ⟨r2, S3, z1, z2⟩ := num_C b a3 a2 hq 0 3 (by decide)
    rw [z1, bnd_mk] at eC
    rcases z2 with ⟨y1, y2, y3⟩ | ⟨y1, y2, y3, y4, y5, y6⟩
    · rw [y1, if_pos rfl] at eC
      rw [if_neg y2, if_pos rfl] at eM
      have F := fr_X7_takeNumber _ _ S2 z1
      refine .inl ⟨S3, T3, nextF n B p, eC, eM, y3, m2.1, hq, fun k _ => ⟨congrFun ((F.2.1 26 rfl).trans (a6 26)) k, congrFun ((F.2.1 27 rfl).trans (a6 27)) k, congrFun ((F.2.1 28 rfl).trans (a6 28)) k, congrFun ((F.2.1 29 rfl).trans (a6 29)) k⟩, fun k hk => ?_⟩
      rw [m5, m5, m5, m5]; exact keep k hk
    · rw [y1, if_neg (by decide), vlet_eq] at eC
      rw [if_pos y2, if_neg (by decide), chk_of g1, vlet_eq] at eM
      have F := fr_X7_takeNumber _ _ S2 z1
      obtain ⟨T4, q1, q2, q3, q4, q5⟩ := next_M (T := wr T3 60 (nI m) (Int64.toInt32 (gJ T3 2))) b hq (by rw [y2.1]; decide) m2 (m3.m rfl rfl)
      rw [q1, bnd_mk] at eM
      have N := name_part b (nextF_le b hq) hlt y3 (a3.c (F.1 5 rfl) (F.2.1 24 rfl)) ((F.1 7 rfl).trans (a4.trans h7)) q2 q3 (gI S3 11) (by rw [q5]; simp only [gA_wr, reduceIte, g2, upd_at]; rw [m2.2.2.2.2 y2.1]; exact y4.symm) (by rw [q5]; simp only [gA_wr, reduceIte, Nat.reduceEqDiff, m5]; exact s63)
      obtain ⟨nm, x, u1, u2, N⟩ := N
      refine fin (gI S3 11) _ _ ⟨Int32.le_trans (by decide) y5, y6⟩ eC eM hlt ⟨nm, x, u1, u2, N.mono (fun k => (F.2.1 k rfl).trans (a6 k)) ((F.1 6 rfl).trans a5) ((q4.trans m4).trans h28) (fun k hk => ?_)⟩
      obtain ⟨e1, e2, e3, e4⟩ := keep k hk
      refine ⟨?_, ?_, ?_, ?_⟩
      · rw [q5]; simp only [gA_wr, reduceIte, Nat.reduceEqDiff, m5, g2, upd_at, if_neg hk]; exact e1
      · rw [q5]; simp only [gA_wr, reduceIte, Nat.reduceEqDiff, m5]; exact e2
      · rw [q5]; simp only [gA_wr, reduceIte, Nat.reduceEqDiff, m5]; exact e3
      · rw [q5]; simp only [gA_wr, reduceIte, Nat.reduceEqDiff, m5]; exact e4
  · have h0 : r = 0 := by
      rcases w2 with q | q
      · exact q
      · exact absurd q hr
    rw [if_pos h0] at eC
    rw [if_neg (fun q => hr (w3.mpr ⟨c2, (hPm.2.2.2.1 c2).symm.trans q⟩))] at eM
    have N := name_part b hp hlt hP hT h7 hPm2 hTm2 (-1) s60 s63
    obtain ⟨nm, x, u1, u2, N⟩ := N
    exact fin (-1) _ _ ⟨by decide, by decide⟩ eC eM hlt ⟨nm, x, u1, u2, N.mono (fun _ => rfl) rfl h28 keep⟩
