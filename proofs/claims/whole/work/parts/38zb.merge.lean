/-! ===== perform: two runs are merged ===== -/
def cntQ (q : Int64 → Bool) (A : Nat → Int64) : Nat → Nat
  | 0 => 0
  | n + 1 => cntQ q A n + (if q (A n) = true then 1 else 0)
theorem cntQ_succ (q : Int64 → Bool) (A : Nat → Int64) (n : Nat) : cntQ q A (n + 1) = cntQ q A n + (if q (A n) = true then 1 else 0) := rfl
theorem cntQ_congr {q : Int64 → Bool} {A A' : Nat → Int64} : ∀ {n : Nat}, (∀ k, k < n → A k = A' k) → cntQ q A n = cntQ q A' n
  | 0, _ => rfl
  | n + 1, h => by rw [cntQ_succ, cntQ_succ, cntQ_congr (fun k hk => h k (by omega)), h n (by omega)]
def SrtR (A : Nat → Int64) (lo hi : Nat) : Prop := ∀ i j, lo ≤ i → i ≤ j → j < hi → A i ≤ A j
theorem isL_of {S : St} (h : ROrder S) : isL (gR S 0) = true ∧ isL (gR S 1) = true ∧ gR S 0 ≠ gR S 1 := by
  rcases h with ⟨a, b⟩ | ⟨a, b⟩
  · rw [a, b]; exact ⟨rfl, rfl, by decide⟩
  · rw [a, b]; exact ⟨rfl, rfl, by decide⟩
theorem pL_pL (S : St) (k : Nat) (F G : Nat → Int64) : pL (pL S k F) k G = pL S k G := by
  have e : va_up (va_up S.2.2.1 k F) k G = va_up S.2.2.1 k G := by
    funext j
    by_cases h : j = k
    · rw [h]; exact (if_pos rfl).trans (if_pos rfl).symm
    · exact ((if_neg h).trans (if_neg h)).trans (if_neg h).symm
  show (S.1, S.2.1, va_up (va_up S.2.2.1 k F) k G, S.2.2.2) = (S.1, S.2.1, va_up S.2.2.1 k G, S.2.2.2)
  rw [e]
theorem merge_ok {S : St} (hr : ROrder S) {lo mid hi : Nat} (h1 : lo ≤ mid) (h2 : mid ≤ hi) (h3 : hi ≤ 400) (A F0 : Nat → Int64) (hA : gL S (gR S 0) = A) (s1 : SrtR A lo mid) (s2 : SrtR A mid hi) : ∃ F, f_X5_merge (nI lo) (nI mid) (nI hi) (pL S (gR S 1) F0) = some ((), pL S (gR S 1) F) ∧ (∀ k, k < lo → F k = F0 k) ∧ (∀ q, cntQ q F hi + cntQ q A lo = cntQ q F0 lo + cntQ q A hi) ∧ SrtR F lo hi := by
  obtain ⟨iL0, iL1, hne⟩ := isL_of hr
  have rA : ∀ F, gL (pL S (gR S 1) F) (gR S 0) = A := fun F => (gL_pL S _ _ F).trans ((if_neg hne).trans hA)
  have rF : ∀ F, gL (pL S (gR S 1) F) (gR S 1) = F := fun F => (gL_pL S _ _ F).trans (if_pos rfl)
  have key : ∀ d i l r f F, i + d = hi → d < f → lo ≤ l → l ≤ mid → mid ≤ r → r ≤ hi → l + r = i + mid → (∀ k, k < lo → F k = F0 k) → (∀ q, cntQ q F i + cntQ q A lo + cntQ q A mid = cntQ q F0 lo + cntQ q A l + cntQ q A r) → SrtR F lo i → (∀ x, lo ≤ x → x < i → (l < mid → F x ≤ A l) ∧ (r < hi → F x ≤ A r)) → ∃ F', f_X5_merge_l9 (nI mid) (nI hi) f (nI l, nI r, nI i, pL S (gR S 1) F) = some ((), pL S (gR S 1) F') ∧ (∀ k, k < lo → F' k = F0 k) ∧ (∀ q, cntQ q F' hi + cntQ q A lo = cntQ q F0 lo + cntQ q A hi) ∧ SrtR F' lo hi := by
    intro d
    induction d with
    | zero =>
      intro i l r f F hi' hf b1 b2 b3 b4 b5 k1 k2 k3 k4
      have e : i = hi := by omega
      subst e
      have e1 : l = mid := by omega
      have e2 : r = i := by omega
      subst e1; subst e2
      obtain ⟨f, rfl⟩ : ∃ f1, f = f1 + 1 := ⟨f - 1, by omega⟩
      refine ⟨F, ?_, k1, fun q => by have := k2 q; omega, k3⟩
      show f_X5_merge_b9 (f_X5_merge_l9 (nI l) (nI r) f) (nI l) (nI r) (nI l) (nI r) (nI r) (pL S (gR S 1) F) = _
      unfold f_X5_merge_b9
      rw [if_pos (nI_le (Nat.le_refl _) (by omega))]
    | succ d ih =>
      intro i l r f F hi' hf b1 b2 b3 b4 b5 k1 k2 k3 k4
      obtain ⟨f, rfl⟩ : ∃ f1, f = f1 + 1 := ⟨f - 1, by omega⟩
      have ii : inb (nI i) 400 = true := inb_nI (by omega) (by omega)
      have ci : (nI i).toNatClampNeg = i := nI_clamp (by omega)
      have cl : (nI l).toNatClampNeg = l := nI_clamp (by omega)
      have cr : (nI r).toNatClampNeg = r := nI_clamp (by omega)
      -- the value v is put
      have put : ∀ v l' r', (∀ x, lo ≤ x → x < i → F x ≤ v) → lo ≤ l' → l' ≤ mid → mid ≤ r' → r' ≤ hi → l' + r' = i + 1 + mid → (∀ q, cntQ q A l + cntQ q A r + (if q v = true then 1 else 0) = cntQ q A l' + cntQ q A r') → (l' < mid → v ≤ A l') → (r' < hi → v ≤ A r') → ∃ F', f_X5_merge_l9 (nI mid) (nI hi) f (nI l', nI r', nI (i + 1), pL S (gR S 1) (vp_updL F i v)) = some ((), pL S (gR S 1) F') ∧ (∀ k, k < lo → F' k = F0 k) ∧ (∀ q, cntQ q F' hi + cntQ q A lo = cntQ q F0 lo + cntQ q A hi) ∧ SrtR F' lo hi := by
        intro v l' r' hv c1 c2 c3 c4 c5 c6 c7 c8
        have hlo : lo ≤ i := by omega
        refine ih (i + 1) l' r' f _ (by omega) (by omega) c1 c2 c3 c4 c5 (fun k hk => ?_) (fun q => ?_) (fun x y hx hxy hy => ?_) (fun x hx hxi => ?_)
        · rw [pk_uLn (by omega)]; exact k1 k hk
        · rw [cntQ_succ, pk_uLs, cntQ_congr (A' := F) (fun k hk => pk_uLn (by omega))]
          have := k2 q
          have := c6 q
          omega
        · by_cases hy2 : y = i
          · subst hy2
            by_cases hx2 : x = y
            · subst hx2; exact Int64.le_refl _
            · rw [pk_uLs, pk_uLn hx2]; exact hv x hx (by omega)
          · rw [pk_uLn hy2, pk_uLn (by omega)]; exact k3 x y hx hxy (by omega)
        · by_cases hx2 : x = i
          · subst hx2; rw [pk_uLs]; exact ⟨c7, c8⟩
          · rw [pk_uLn hx2]
            have w := hv x hx (by omega)
            exact ⟨fun h => Int64.le_trans w (c7 h), fun h => Int64.le_trans w (c8 h)⟩
      have wF : ∀ v, wrL (pL S (gR S 1) F) (gR S 1) (nI i) v = pL S (gR S 1) (vp_updL F i v) := by
        intro v
        unfold wrL
        rw [rF, ci, pL_pL]
      have right : r < hi → (l < mid → A r ≤ A l) → ∃ F', f_X5_merge_b65 (f_X5_merge_l9 (nI mid) (nI hi) f) (nI mid) (nI hi) (nI l) (nI r) (nI i) (pL S (gR S 1) F) = some ((), pL S (gR S 1) F') ∧ (∀ k, k < lo → F' k = F0 k) ∧ (∀ q, cntQ q F' hi + cntQ q A lo = cntQ q F0 lo + cntQ q A hi) ∧ SrtR F' lo hi := by
        intro hr2 hle
        have ir : inb (nI r) 400 = true := inb_nI (by omega) (by omega)
        obtain ⟨F', w1, w2⟩ := put (A r) l (r + 1) (fun x hx hxi => (k4 x hx hxi).2 hr2) b1 b2 (by omega) (by omega) (by omega) (fun q => by rw [cntQ_succ]; omega) hle (fun h => s2 r (r + 1) b3 (by omega) h)
        refine ⟨F', ?_, w2⟩
        unfold f_X5_merge_b65 f_X5_merge_b82
        rw [show gR (pL S (gR S 1) F) 0 = gR S 0 from rfl, show gR (pL S (gR S 1) F) 1 = gR S 1 from rfl, chk_of iL0, chk_of ir, chk_of iL1, chk_of ii, vlet_eq, wF, nI_1, nI_1]
        unfold rdL
        rw [rA, cr]
        exact w1
      have left : l < mid → (r < hi → A l ≤ A r) → ∃ F', f_X5_merge_b45 (f_X5_merge_l9 (nI mid) (nI hi) f) (nI mid) (nI hi) (nI l) (nI r) (nI i) (pL S (gR S 1) F) = some ((), pL S (gR S 1) F') ∧ (∀ k, k < lo → F' k = F0 k) ∧ (∀ q, cntQ q F' hi + cntQ q A lo = cntQ q F0 lo + cntQ q A hi) ∧ SrtR F' lo hi := by
        intro hl2 hle
        have il : inb (nI l) 400 = true := inb_nI (by omega) (by omega)
        obtain ⟨F', w1, w2⟩ := put (A l) (l + 1) r (fun x hx hxi => (k4 x hx hxi).1 hl2) (by omega) (by omega) b3 b4 (by omega) (fun q => by rw [cntQ_succ]; omega) (fun h => s1 l (l + 1) b1 (by omega) h) hle
        refine ⟨F', ?_, w2⟩
        unfold f_X5_merge_b45 f_X5_merge_b82
        rw [show gR (pL S (gR S 1) F) 0 = gR S 0 from rfl, show gR (pL S (gR S 1) F) 1 = gR S 1 from rfl, chk_of iL0, chk_of il, chk_of iL1, chk_of ii, vlet_eq, wF, nI_1, nI_1]
        unfold rdL
        rw [rA, cl]
        exact w1
      show ∃ F', f_X5_merge_b9 (f_X5_merge_l9 (nI mid) (nI hi) f) (nI mid) (nI hi) (nI l) (nI r) (nI i) (pL S (gR S 1) F) = some ((), pL S (gR S 1) F') ∧ _
      unfold f_X5_merge_b9
      rw [if_neg (nI_ge (show i < hi by omega) (by omega))]
      by_cases q1 : mid ≤ l
      · rw [if_pos (nI_le q1 (by omega))]
        exact right (by omega) (fun h => absurd h (by omega))
      · rw [if_neg (nI_ge (by omega) (by omega))]
        by_cases q2 : hi ≤ r
        · rw [if_pos (nI_le q2 (by omega))]
          exact left (by omega) (fun h => absurd h (by omega))
        · have il : inb (nI l) 400 = true := inb_nI (by omega) (by omega)
          have ir : inb (nI r) 400 = true := inb_nI (by omega) (by omega)
          rw [if_neg (nI_ge (by omega) (by omega)), show gR (pL S (gR S 1) F) 0 = gR S 0 from rfl, chk_of iL0, chk_of il, chk_of iL0, chk_of ir]
          unfold rdL
          rw [rA, cl, cr]
          by_cases q3 : A r ≤ A l
          · rw [if_pos (cmp_ge.mpr q3)]
            exact right (by omega) (fun _ => q3)
          · rw [if_neg (fun h => q3 (cmp_ge.mp h))]
            exact left (by omega) (fun _ => Int64.le_of_lt (Int64.not_le.mp q3))
  unfold f_X5_merge f_X5_merge_b0
  exact key (hi - lo) lo lo mid fuel F0 (by omega) (fuel_gt (by omega)) (Nat.le_refl _) h1 (Nat.le_refl _) h2 (by omega) (fun _ _ => rfl) (fun q => by omega) (fun x y hx hxy hy => absurd hy (by omega)) (fun x hx hxi => absurd hxi (by omega))
