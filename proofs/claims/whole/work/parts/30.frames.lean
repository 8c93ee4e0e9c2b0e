/-! ===== what a function leaves as it was ===== -/
def Fr (w : List Nat × List Nat × List Nat × Bool) (S S1 : St) : Prop := (∀ k, w.1.contains k = false → gI S1 k = gI S k) ∧ (∀ k, w.2.1.contains k = false → gA S1 k = gA S k) ∧ (∀ k, w.2.2.1.contains k = false → gJ S1 k = gJ S k) ∧ (w.2.2.2 = false → ∀ k, gL S1 k = gL S k ∧ gR S1 k = gR S k)
theorem Fr.rf {w : List Nat × List Nat × List Nat × Bool} {S : St} : Fr w S S := ⟨fun _ _ => rfl, fun _ _ => rfl, fun _ _ => rfl, fun _ _ => ⟨rfl, rfl⟩⟩
theorem Fr.trans {w : List Nat × List Nat × List Nat × Bool} {S S1 S2 : St} (h : Fr w S S1) (g : Fr w S1 S2) : Fr w S S2 := ⟨fun k q => (g.1 k q).trans (h.1 k q), fun k q => (g.2.1 k q).trans (h.2.1 k q), fun k q => (g.2.2.1 k q).trans (h.2.2.1 k q), fun q k => ⟨(g.2.2.2 q k).1.trans (h.2.2.2 q k).1, (g.2.2.2 q k).2.trans (h.2.2.2 q k).2⟩⟩
theorem sub_false {a b : List Nat} (h : a.all (fun k => b.contains k) = true) {k : Nat} (q : b.contains k = false) : a.contains k = false := by
  cases hc : a.contains k with
  | false => rfl
  | true =>
    have h1 := List.all_eq_true.mp h k (List.contains_iff_mem.mp hc)
    rw [h1] at q
    cases q
theorem Fr.mono {w w1 : List Nat × List Nat × List Nat × Bool} {S S1 : St} (h : Fr w S S1) (a : w.1.all (fun k => w1.1.contains k) = true) (b : w.2.1.all (fun k => w1.2.1.contains k) = true) (c : w.2.2.1.all (fun k => w1.2.2.1.contains k) = true) (d : (w.2.2.2 && !w1.2.2.2) = false) : Fr w1 S S1 := by
  refine ⟨fun k q => h.1 k (sub_false a q), fun k q => h.2.1 k (sub_false b q), fun k q => h.2.2.1 k (sub_false c q), fun q k => h.2.2.2 ?_ k⟩
  cases e : w.2.2.2 with
  | false => rfl
  | true => rw [e, q] at d; cases d
theorem up_ne {α : Type} {f : Nat → α} {k j : Nat} {v : α} (h : j ≠ k) : va_up f k v j = f j := if_neg h
theorem con_ne {l : List Nat} {k j : Nat} (h : l.contains k = true) (q : l.contains j = false) : j ≠ k := fun e => by rw [e, h] at q; cases q
theorem Fr.pI {w : List Nat × List Nat × List Nat × Bool} {k : Nat} {S S1 : St} {v : Int32} (e : S1 = pI S k v) (h : w.1.contains k = true) : Fr w S S1 := by
  subst e; exact ⟨fun j q => up_ne (con_ne h q), fun _ _ => rfl, fun _ _ => rfl, fun _ _ => ⟨rfl, rfl⟩⟩
theorem Fr.pJ {w : List Nat × List Nat × List Nat × Bool} {k : Nat} {S S1 : St} {v : Int64} (e : S1 = pJ S k v) (h : w.2.2.1.contains k = true) : Fr w S S1 := by
  subst e; exact ⟨fun _ _ => rfl, fun _ _ => rfl, fun j q => up_ne (con_ne h q), fun _ _ => ⟨rfl, rfl⟩⟩
theorem Fr.pR {w : List Nat × List Nat × List Nat × Bool} {k : Nat} {S S1 : St} {v : Nat} (e : S1 = pR S k v) (h : w.2.2.2 = true) : Fr w S S1 := by
  subst e; exact ⟨fun _ _ => rfl, fun _ _ => rfl, fun _ _ => rfl, fun q => by rw [h] at q; cases q⟩
theorem Fr.stoL {w : List Nat × List Nat × List Nat × Bool} {k : Nat} {S S1 : St} {i : Int32} {v : Int64} (e : S1 = wrL S k i v) (h : w.2.2.2 = true) : Fr w S S1 := by
  subst e; exact ⟨fun _ _ => rfl, fun _ _ => rfl, fun _ _ => rfl, fun q => by rw [h] at q; cases q⟩
theorem Fr.sto {w : List Nat × List Nat × List Nat × Bool} {k : Nat} {S S1 : St} {i v : Int32} (e : S1 = wr S k i v) (h : w.2.1.contains k = true) : Fr w S S1 := by
  subst e; exact ⟨fun _ _ => rfl, fun j q => up_ne (con_ne h q), fun _ _ => rfl, fun _ _ => ⟨rfl, rfl⟩⟩
theorem inb_lt2 {i : Int32} {n : Nat} (h : inb i n = true) : i.toNatClampNeg < n := Nat.not_le.mp fun q => inb_in h (Or.inr q)
theorem Fr.stog {w : List Nat × List Nat × List Nat × Bool} {b n : Nat} {S S1 : St} {i j v : Int32} (e : S1 = wr S (b + j.toNatClampNeg) i v) (hj : j.toNatClampNeg < n) (h : (List.range n).all (fun d => w.2.1.contains (b + d)) = true) : Fr w S S1 := Fr.sto e (List.all_eq_true.mp h _ (List.mem_range.mpr hj))
theorem fr_end {ρ : Type} {w : List Nat × List Nat × List Nat × Bool} {S0 S : St} {v : ρ} {r0 : ρ × St} (h : some (v, S) = some r0) (F : Fr w S0 S) : Fr w S0 r0.2 := by
  have e : (v, S) = r0 := Option.some.inj h
  subst e
  exact F
theorem vlet_ex {α β : Type} {a : α} {f : α → β} {r : β} (h : vlet a f = r) : ∃ x, x = a ∧ f x = r := ⟨a, rfl, h⟩
theorem ite_or {α : Type} {c : Prop} {hc : Decidable c} {a b r : α} (h : (if c then a else b) = r) : a = r ∨ b = r := by
  by_cases q : c
  · exact Or.inl (ite_t h q)
  · exact Or.inr (ite_f h q)
def W_J0_length_8abf5 : List Nat × List Nat × List Nat × Bool := ([], [], [], false)
theorem fr_J0_length_8abf5 (i : Nat) (S : St) {r0 : Int32 × St} (h : f_J0_length_8abf5 i S = some r0) : Fr W_J0_length_8abf5 S r0.2 := by
  cases (chk_some h).2; exact Fr.rf
def W_J0_charAt_5068e : List Nat × List Nat × List Nat × Bool := ([], [], [], false)
theorem fr_J0_charAt_5068e (i : Nat) (k : Int32) (S : St) {r0 : Int32 × St} (h : f_J0_charAt_5068e i k S = some r0) : Fr W_J0_charAt_5068e S r0.2 := by
  cases (chk_some (chk_some h).2).2; exact Fr.rf
def W_J9_floorDiv_f86c9 : List Nat × List Nat × List Nat × Bool := ([], [], [], false)
theorem fr_J9_floorDiv_f86c9_b27 (v4 : Int64) (S : St) {r0 : Int64 × St} (h : f_J9_floorDiv_f86c9_b27 v4 S = some r0) : Fr W_J9_floorDiv_f86c9 S r0.2 := by
  have F : Fr W_J9_floorDiv_f86c9 S S := Fr.rf
  unfold f_J9_floorDiv_f86c9_b27 at h
  exact fr_end h F
theorem fr_J9_floorDiv_f86c9_b0 (a1 : Int64) (a2 : Int64) (S : St) {r0 : Int64 × St} (h : f_J9_floorDiv_f86c9_b0 a1 a2 S = some r0) : Fr W_J9_floorDiv_f86c9 S r0.2 := by
  have F : Fr W_J9_floorDiv_f86c9 S S := Fr.rf
  unfold f_J9_floorDiv_f86c9_b0 at h
  replace h := (chk_some h).2
  obtain ⟨y1, _, h⟩ := vlet_ex h
  rcases ite_or h with h | h
  · exact F.trans (fr_J9_floorDiv_f86c9_b27 y1 S h)
  · rcases ite_or h with h | h
    · exact F.trans (fr_J9_floorDiv_f86c9_b27 y1 S h)
    · exact fr_end h F
theorem fr_J9_floorDiv_f86c9 (a1 : Int64) (a2 : Int64) (S : St) {r0 : Int64 × St} (h : f_J9_floorDiv_f86c9 a1 a2 S = some r0) : Fr W_J9_floorDiv_f86c9 S r0.2 := by
  have F : Fr W_J9_floorDiv_f86c9 S S := Fr.rf
  unfold f_J9_floorDiv_f86c9 at h
  exact F.trans (fr_J9_floorDiv_f86c9_b0 a1 a2 S h)
def W_J9_floorMod_f86c9 : List Nat × List Nat × List Nat × Bool := ([], [], [], false)
theorem fr_J9_floorMod_f86c9_b25 (v4 : Int64) (S : St) {r0 : Int64 × St} (h : f_J9_floorMod_f86c9_b25 v4 S = some r0) : Fr W_J9_floorMod_f86c9 S r0.2 := by
  have F : Fr W_J9_floorMod_f86c9 S S := Fr.rf
  unfold f_J9_floorMod_f86c9_b25 at h
  exact fr_end h F
theorem fr_J9_floorMod_f86c9_b0 (a1 : Int64) (a2 : Int64) (S : St) {r0 : Int64 × St} (h : f_J9_floorMod_f86c9_b0 a1 a2 S = some r0) : Fr W_J9_floorMod_f86c9 S r0.2 := by
  have F : Fr W_J9_floorMod_f86c9 S S := Fr.rf
  unfold f_J9_floorMod_f86c9_b0 at h
  replace h := (chk_some h).2
  obtain ⟨y1, _, h⟩ := vlet_ex h
  rcases ite_or h with h | h
  · exact F.trans (fr_J9_floorMod_f86c9_b25 y1 S h)
  · rcases ite_or h with h | h
    · exact F.trans (fr_J9_floorMod_f86c9_b25 y1 S h)
    · exact fr_end h F
theorem fr_J9_floorMod_f86c9 (a1 : Int64) (a2 : Int64) (S : St) {r0 : Int64 × St} (h : f_J9_floorMod_f86c9 a1 a2 S = some r0) : Fr W_J9_floorMod_f86c9 S r0.2 := by
  have F : Fr W_J9_floorMod_f86c9 S S := Fr.rf
  unfold f_J9_floorMod_f86c9 at h
  exact F.trans (fr_J9_floorMod_f86c9_b0 a1 a2 S h)
def W_J9_floorMod_1978a : List Nat × List Nat × List Nat × Bool := ([], [], [], false)
theorem fr_J9_floorMod_1978a_b0 (a1 : Int64) (a2 : Int32) (S : St) {r0 : Int32 × St} (h : f_J9_floorMod_1978a_b0 a1 a2 S = some r0) : Fr W_J9_floorMod_1978a S r0.2 := by
  have F : Fr W_J9_floorMod_1978a S S := Fr.rf
  unfold f_J9_floorMod_1978a_b0 at h
  obtain ⟨⟨r2, S1⟩, e_, h⟩ := bnd_some h
  replace F := F.trans ((fr_J9_floorMod_f86c9 a1 (Int32.toInt64 a2) _ e_).mono (w1 := W_J9_floorMod_1978a) rfl rfl rfl rfl)
  exact fr_end h F
theorem fr_J9_floorMod_1978a (a1 : Int64) (a2 : Int32) (S : St) {r0 : Int32 × St} (h : f_J9_floorMod_1978a a1 a2 S = some r0) : Fr W_J9_floorMod_1978a S r0.2 := by
  have F : Fr W_J9_floorMod_1978a S S := Fr.rf
  unfold f_J9_floorMod_1978a at h
  exact F.trans (fr_J9_floorMod_1978a_b0 a1 a2 S h)
def W_X11_isWithin : List Nat × List Nat × List Nat × Bool := ([], [], [], false)
theorem fr_X11_isWithin_b15 (w0 : Int32) (S : St) {r0 : Int32 × St} (h : f_X11_isWithin_b15 w0 S = some r0) : Fr W_X11_isWithin S r0.2 := by
  have F : Fr W_X11_isWithin S S := Fr.rf
  unfold f_X11_isWithin_b15 at h
  exact fr_end (chk_some h).2 F
theorem fr_X11_isWithin_b14 (S : St) {r0 : Int32 × St} (h : f_X11_isWithin_b14 S = some r0) : Fr W_X11_isWithin S r0.2 := by
  have F : Fr W_X11_isWithin S S := Fr.rf
  unfold f_X11_isWithin_b14 at h
  exact F.trans (fr_X11_isWithin_b15 0 S h)
theorem fr_X11_isWithin_b0 (a1 : Int32) (a2 : Int32) (a3 : Int32) (S : St) {r0 : Int32 × St} (h : f_X11_isWithin_b0 a1 a2 a3 S = some r0) : Fr W_X11_isWithin S r0.2 := by
  have F : Fr W_X11_isWithin S S := Fr.rf
  unfold f_X11_isWithin_b0 at h
  rcases ite_or h with h | h
  · exact F.trans (fr_X11_isWithin_b14  S h)
  · rcases ite_or h with h | h
    · exact F.trans (fr_X11_isWithin_b14  S h)
    · exact F.trans (fr_X11_isWithin_b15 1 S h)
theorem fr_X11_isWithin (a1 : Int32) (a2 : Int32) (a3 : Int32) (S : St) {r0 : Int32 × St} (h : f_X11_isWithin a1 a2 a3 S = some r0) : Fr W_X11_isWithin S r0.2 := by
  have F : Fr W_X11_isWithin S S := Fr.rf
  unfold f_X11_isWithin at h
  exact F.trans (fr_X11_isWithin_b0 a1 a2 a3 S h)
def W_X11_isVoice : List Nat × List Nat × List Nat × Bool := ([], [], [], false)
theorem fr_X11_isVoice_b0 (a1 : Int32) (S : St) {r0 : Int32 × St} (h : f_X11_isVoice_b0 a1 S = some r0) : Fr W_X11_isVoice S r0.2 := by
  have F : Fr W_X11_isVoice S S := Fr.rf
  unfold f_X11_isVoice_b0 at h
  obtain ⟨⟨r2, S1⟩, e_, h⟩ := bnd_some h
  replace F := F.trans ((fr_X11_isWithin a1 0 3 _ e_).mono (w1 := W_X11_isVoice) rfl rfl rfl rfl)
  exact fr_end (chk_some h).2 F
theorem fr_X11_isVoice (a1 : Int32) (S : St) {r0 : Int32 × St} (h : f_X11_isVoice a1 S = some r0) : Fr W_X11_isVoice S r0.2 := by
  have F : Fr W_X11_isVoice S S := Fr.rf
  unfold f_X11_isVoice at h
  exact F.trans (fr_X11_isVoice_b0 a1 S h)
def W_X4_add : List Nat × List Nat × List Nat × Bool := ([2], [13, 14, 15, 16, 17], [], false)
theorem fr_X4_add_b0 (a1 : Int32) (a2 : Int32) (a3 : Int32) (a4 : Int32) (a5 : Int32) (S : St) {r0 : Int32 × St} (h : f_X4_add_b0 a1 a2 a3 a4 a5 S = some r0) : Fr W_X4_add S r0.2 := by
  have F : Fr W_X4_add S S := Fr.rf
  unfold f_X4_add_b0 at h
  rcases ite_or h with h | h
  · obtain ⟨S1, e_, h⟩ := vlet_ex (chk_some h).2
    replace F := F.trans (Fr.sto (w := W_X4_add) (k := 13) e_ rfl)
    obtain ⟨S2, e_, h⟩ := vlet_ex (chk_some h).2
    replace F := F.trans (Fr.sto (w := W_X4_add) (k := 14) e_ rfl)
    obtain ⟨S3, e_, h⟩ := vlet_ex (chk_some h).2
    replace F := F.trans (Fr.sto (w := W_X4_add) (k := 15) e_ rfl)
    obtain ⟨S4, e_, h⟩ := vlet_ex (chk_some h).2
    replace F := F.trans (Fr.sto (w := W_X4_add) (k := 16) e_ rfl)
    obtain ⟨S5, e_, h⟩ := vlet_ex (chk_some h).2
    replace F := F.trans (Fr.sto (w := W_X4_add) (k := 17) e_ rfl)
    obtain ⟨S6, e_, h⟩ := vlet_ex h
    replace F := F.trans (Fr.pI (w := W_X4_add) (k := 2) e_ rfl)
    exact fr_end h F
  · exact fr_end h F
theorem fr_X4_add (a1 : Int32) (a2 : Int32) (a3 : Int32) (a4 : Int32) (a5 : Int32) (S : St) {r0 : Int32 × St} (h : f_X4_add a1 a2 a3 a4 a5 S = some r0) : Fr W_X4_add S r0.2 := by
  have F : Fr W_X4_add S S := Fr.rf
  unfold f_X4_add at h
  exact F.trans (fr_X4_add_b0 a1 a2 a3 a4 a5 S h)
def W_X11_note : List Nat × List Nat × List Nat × Bool := ([2], [13, 14, 15, 16, 17], [], false)
theorem fr_X11_note_b29 (S : St) {r0 : Int32 × St} (h : f_X11_note_b29 S = some r0) : Fr W_X11_note S r0.2 := by
  have F : Fr W_X11_note S S := Fr.rf
  unfold f_X11_note_b29 at h
  exact fr_end h F
theorem fr_X11_note_b56 (S : St) {r0 : Int32 × St} (h : f_X11_note_b56 S = some r0) : Fr W_X11_note S r0.2 := by
  have F : Fr W_X11_note S S := Fr.rf
  unfold f_X11_note_b56 at h
  exact fr_end h F
theorem fr_X11_note_b0 (a1 : Int32) (a2 : Int32) (a3 : Int32) (a4 : Int32) (a5 : Int32) (S : St) {r0 : Int32 × St} (h : f_X11_note_b0 a1 a2 a3 a4 a5 S = some r0) : Fr W_X11_note S r0.2 := by
  have F : Fr W_X11_note S S := Fr.rf
  unfold f_X11_note_b0 at h
  obtain ⟨⟨r2, S1⟩, e_, h⟩ := bnd_some h
  replace F := F.trans ((fr_X11_isVoice a1 _ e_).mono (w1 := W_X11_note) rfl rfl rfl rfl)
  rcases ite_or h with h | h
  · exact F.trans (fr_X11_note_b29  S1 h)
  · obtain ⟨⟨r4, S3⟩, e_, h⟩ := bnd_some h
    replace F := F.trans ((fr_X11_isWithin a2 0 9600 _ e_).mono (w1 := W_X11_note) rfl rfl rfl rfl)
    rcases ite_or h with h | h
    · exact F.trans (fr_X11_note_b29  S3 h)
    · obtain ⟨⟨r6, S5⟩, e_, h⟩ := bnd_some h
      replace F := F.trans ((fr_X11_isWithin a3 1 960 _ e_).mono (w1 := W_X11_note) rfl rfl rfl rfl)
      rcases ite_or h with h | h
      · exact F.trans (fr_X11_note_b29  S5 h)
      · obtain ⟨⟨r8, S7⟩, e_, h⟩ := bnd_some h
        replace F := F.trans ((fr_X11_isWithin a4 12 115 _ e_).mono (w1 := W_X11_note) rfl rfl rfl rfl)
        rcases ite_or h with h | h
        · exact F.trans (fr_X11_note_b56  S7 h)
        · obtain ⟨⟨r10, S9⟩, e_, h⟩ := bnd_some h
          replace F := F.trans ((fr_X11_isWithin a5 0 127 _ e_).mono (w1 := W_X11_note) rfl rfl rfl rfl)
          rcases ite_or h with h | h
          · exact F.trans (fr_X11_note_b56  S9 h)
          · obtain ⟨⟨r12, S11⟩, e_, h⟩ := bnd_some h
            replace F := F.trans ((fr_X4_add a1 a2 a3 a4 a5 _ e_).mono (w1 := W_X11_note) rfl rfl rfl rfl)
            exact fr_end h F
theorem fr_X11_note (a1 : Int32) (a2 : Int32) (a3 : Int32) (a4 : Int32) (a5 : Int32) (S : St) {r0 : Int32 × St} (h : f_X11_note a1 a2 a3 a4 a5 S = some r0) : Fr W_X11_note S r0.2 := by
  have F : Fr W_X11_note S S := Fr.rf
  unfold f_X11_note at h
  exact F.trans (fr_X11_note_b0 a1 a2 a3 a4 a5 S h)
def W_X12_in : List Nat × List Nat × List Nat × Bool := ([], [], [], false)
theorem fr_X12_in_b18 (w0 : Int32) (S : St) {r0 : Int32 × St} (h : f_X12_in_b18 w0 S = some r0) : Fr W_X12_in S r0.2 := by
  have F : Fr W_X12_in S S := Fr.rf
  unfold f_X12_in_b18 at h
  exact fr_end (chk_some h).2 F
theorem fr_X12_in_b17 (S : St) {r0 : Int32 × St} (h : f_X12_in_b17 S = some r0) : Fr W_X12_in S r0.2 := by
  have F : Fr W_X12_in S S := Fr.rf
  unfold f_X12_in_b17 at h
  exact F.trans (fr_X12_in_b18 0 S h)
theorem fr_X12_in_b0 (a1 : Int64) (a2 : Int64) (a3 : Int64) (S : St) {r0 : Int32 × St} (h : f_X12_in_b0 a1 a2 a3 S = some r0) : Fr W_X12_in S r0.2 := by
  have F : Fr W_X12_in S S := Fr.rf
  unfold f_X12_in_b0 at h
  rcases ite_or h with h | h
  · exact F.trans (fr_X12_in_b17  S h)
  · rcases ite_or h with h | h
    · exact F.trans (fr_X12_in_b17  S h)
    · exact F.trans (fr_X12_in_b18 1 S h)
theorem fr_X12_in (a1 : Int64) (a2 : Int64) (a3 : Int64) (S : St) {r0 : Int32 × St} (h : f_X12_in a1 a2 a3 S = some r0) : Fr W_X12_in S r0.2 := by
  have F : Fr W_X12_in S S := Fr.rf
  unfold f_X12_in at h
  exact F.trans (fr_X12_in_b0 a1 a2 a3 S h)
def W_X12_note : List Nat × List Nat × List Nat × Bool := ([23], [49, 50, 51, 52, 53], [], false)
theorem fr_X12_note_b64 (S : St) {r0 : Int32 × St} (h : f_X12_note_b64 S = some r0) : Fr W_X12_note S r0.2 := by
  have F : Fr W_X12_note S S := Fr.rf
  unfold f_X12_note_b64 at h
  exact fr_end h F
theorem fr_X12_note_b0 (a1 : Int32) (a2 : Int32) (a3 : Int32) (a4 : Int32) (a5 : Int32) (S : St) {r0 : Int32 × St} (h : f_X12_note_b0 a1 a2 a3 a4 a5 S = some r0) : Fr W_X12_note S r0.2 := by
  have F : Fr W_X12_note S S := Fr.rf
  unfold f_X12_note_b0 at h
  obtain ⟨⟨r2, S1⟩, e_, h⟩ := bnd_some h
  replace F := F.trans ((fr_X12_in (Int32.toInt64 a1) 0 3 _ e_).mono (w1 := W_X12_note) rfl rfl rfl rfl)
  rcases ite_or h with h | h
  · exact F.trans (fr_X12_note_b64  S1 h)
  · obtain ⟨⟨r4, S3⟩, e_, h⟩ := bnd_some h
    replace F := F.trans ((fr_X12_in (Int32.toInt64 a2) 0 9600 _ e_).mono (w1 := W_X12_note) rfl rfl rfl rfl)
    rcases ite_or h with h | h
    · exact F.trans (fr_X12_note_b64  S3 h)
    · obtain ⟨⟨r6, S5⟩, e_, h⟩ := bnd_some h
      replace F := F.trans ((fr_X12_in (Int32.toInt64 a3) 1 960 _ e_).mono (w1 := W_X12_note) rfl rfl rfl rfl)
      rcases ite_or h with h | h
      · exact F.trans (fr_X12_note_b64  S5 h)
      · obtain ⟨⟨r8, S7⟩, e_, h⟩ := bnd_some h
        replace F := F.trans ((fr_X12_in (Int32.toInt64 a4) 12 115 _ e_).mono (w1 := W_X12_note) rfl rfl rfl rfl)
        rcases ite_or h with h | h
        · exact F.trans (fr_X12_note_b64  S7 h)
        · obtain ⟨⟨r10, S9⟩, e_, h⟩ := bnd_some h
          replace F := F.trans ((fr_X12_in (Int32.toInt64 a5) 0 127 _ e_).mono (w1 := W_X12_note) rfl rfl rfl rfl)
          rcases ite_or h with h | h
          · exact F.trans (fr_X12_note_b64  S9 h)
          · rcases ite_or h with h | h
            · exact fr_end h F
            · obtain ⟨S11, e_, h⟩ := vlet_ex (chk_some h).2
              replace F := F.trans (Fr.sto (w := W_X12_note) (k := 49) e_ rfl)
              obtain ⟨S12, e_, h⟩ := vlet_ex (chk_some h).2
              replace F := F.trans (Fr.sto (w := W_X12_note) (k := 50) e_ rfl)
              obtain ⟨S13, e_, h⟩ := vlet_ex (chk_some h).2
              replace F := F.trans (Fr.sto (w := W_X12_note) (k := 51) e_ rfl)
              obtain ⟨S14, e_, h⟩ := vlet_ex (chk_some h).2
              replace F := F.trans (Fr.sto (w := W_X12_note) (k := 52) e_ rfl)
              obtain ⟨S15, e_, h⟩ := vlet_ex (chk_some h).2
              replace F := F.trans (Fr.sto (w := W_X12_note) (k := 53) e_ rfl)
              obtain ⟨S16, e_, h⟩ := vlet_ex h
              replace F := F.trans (Fr.pI (w := W_X12_note) (k := 23) e_ rfl)
              exact fr_end h F
theorem fr_X12_note (a1 : Int32) (a2 : Int32) (a3 : Int32) (a4 : Int32) (a5 : Int32) (S : St) {r0 : Int32 × St} (h : f_X12_note a1 a2 a3 a4 a5 S = some r0) : Fr W_X12_note S r0.2 := by
  have F : Fr W_X12_note S S := Fr.rf
  unfold f_X12_note at h
  exact F.trans (fr_X12_note_b0 a1 a2 a3 a4 a5 S h)
def W_X4_has : List Nat × List Nat × List Nat × Bool := ([], [], [], false)
theorem fr_X4_has_b0 (a1 : Int32) (S : St) {r0 : Int32 × St} (h : f_X4_has_b0 a1 S = some r0) : Fr W_X4_has S r0.2 := by
  have F : Fr W_X4_has S S := Fr.rf
  unfold f_X4_has_b0 at h
  obtain ⟨⟨r2, S1⟩, e_, h⟩ := bnd_some h
  replace F := F.trans ((fr_X11_isWithin a1 0 ((gI S 2) - 1) _ e_).mono (w1 := W_X4_has) rfl rfl rfl rfl)
  exact fr_end (chk_some h).2 F
theorem fr_X4_has (a1 : Int32) (S : St) {r0 : Int32 × St} (h : f_X4_has a1 S = some r0) : Fr W_X4_has S r0.2 := by
  have F : Fr W_X4_has S S := Fr.rf
  unfold f_X4_has at h
  exact F.trans (fr_X4_has_b0 a1 S h)
def W_X4_changeMarks : List Nat × List Nat × List Nat × Bool := ([], [17], [], false)
theorem fr_X4_changeMarks_b0 (a1 : Int32) (a2 : Int32) (S : St) {r0 : Int32 × St} (h : f_X4_changeMarks_b0 a1 a2 S = some r0) : Fr W_X4_changeMarks S r0.2 := by
  have F : Fr W_X4_changeMarks S S := Fr.rf
  unfold f_X4_changeMarks_b0 at h
  replace h := (chk_some h).2
  obtain ⟨x1, _, h⟩ := vlet_ex h
  obtain ⟨S2, e_, h⟩ := vlet_ex (chk_some h).2
  replace F := F.trans (Fr.sto (w := W_X4_changeMarks) (k := 17) e_ rfl)
  exact fr_end h F
theorem fr_X4_changeMarks (a1 : Int32) (a2 : Int32) (S : St) {r0 : Int32 × St} (h : f_X4_changeMarks a1 a2 S = some r0) : Fr W_X4_changeMarks S r0.2 := by
  have F : Fr W_X4_changeMarks S S := Fr.rf
  unfold f_X4_changeMarks at h
  exact F.trans (fr_X4_changeMarks_b0 a1 a2 S h)
def W_X11_mark : List Nat × List Nat × List Nat × Bool := ([], [17], [], false)
theorem fr_X11_mark_b0 (a1 : Int32) (a2 : Int32) (S : St) {r0 : Int32 × St} (h : f_X11_mark_b0 a1 a2 S = some r0) : Fr W_X11_mark S r0.2 := by
  have F : Fr W_X11_mark S S := Fr.rf
  unfold f_X11_mark_b0 at h
  obtain ⟨⟨r2, S1⟩, e_, h⟩ := bnd_some h
  replace F := F.trans ((fr_X4_has a1 _ e_).mono (w1 := W_X11_mark) rfl rfl rfl rfl)
  rcases ite_or h with h | h
  · exact fr_end h F
  · obtain ⟨⟨r4, S3⟩, e_, h⟩ := bnd_some h
    replace F := F.trans ((fr_X11_isWithin a2 0 127 _ e_).mono (w1 := W_X11_mark) rfl rfl rfl rfl)
    rcases ite_or h with h | h
    · exact fr_end h F
    · obtain ⟨⟨r6, S5⟩, e_, h⟩ := bnd_some h
      replace F := F.trans ((fr_X4_changeMarks a1 a2 _ e_).mono (w1 := W_X11_mark) rfl rfl rfl rfl)
      exact fr_end h F
theorem fr_X11_mark (a1 : Int32) (a2 : Int32) (S : St) {r0 : Int32 × St} (h : f_X11_mark a1 a2 S = some r0) : Fr W_X11_mark S r0.2 := by
  have F : Fr W_X11_mark S S := Fr.rf
  unfold f_X11_mark at h
  exact F.trans (fr_X11_mark_b0 a1 a2 S h)
def W_X12_isNote : List Nat × List Nat × List Nat × Bool := ([], [], [], false)
theorem fr_X12_isNote_b0 (a1 : Int32) (S : St) {r0 : Int32 × St} (h : f_X12_isNote_b0 a1 S = some r0) : Fr W_X12_isNote S r0.2 := by
  have F : Fr W_X12_isNote S S := Fr.rf
  unfold f_X12_isNote_b0 at h
  obtain ⟨⟨r2, S1⟩, e_, h⟩ := bnd_some h
  replace F := F.trans ((fr_X12_in (Int32.toInt64 a1) 0 (Int32.toInt64 ((gI S 23) - 1)) _ e_).mono (w1 := W_X12_isNote) rfl rfl rfl rfl)
  exact fr_end (chk_some h).2 F
theorem fr_X12_isNote (a1 : Int32) (S : St) {r0 : Int32 × St} (h : f_X12_isNote a1 S = some r0) : Fr W_X12_isNote S r0.2 := by
  have F : Fr W_X12_isNote S S := Fr.rf
  unfold f_X12_isNote at h
  exact F.trans (fr_X12_isNote_b0 a1 S h)
def W_X12_mark : List Nat × List Nat × List Nat × Bool := ([], [53], [], false)
theorem fr_X12_mark_b0 (a1 : Int32) (a2 : Int32) (S : St) {r0 : Int32 × St} (h : f_X12_mark_b0 a1 a2 S = some r0) : Fr W_X12_mark S r0.2 := by
  have F : Fr W_X12_mark S S := Fr.rf
  unfold f_X12_mark_b0 at h
  obtain ⟨⟨r2, S1⟩, e_, h⟩ := bnd_some h
  replace F := F.trans ((fr_X12_isNote a1 _ e_).mono (w1 := W_X12_mark) rfl rfl rfl rfl)
  rcases ite_or h with h | h
  · exact fr_end h F
  · obtain ⟨⟨r4, S3⟩, e_, h⟩ := bnd_some h
    replace F := F.trans ((fr_X12_in (Int32.toInt64 a2) 0 127 _ e_).mono (w1 := W_X12_mark) rfl rfl rfl rfl)
    rcases ite_or h with h | h
    · exact fr_end h F
    · replace h := (chk_some h).2
      obtain ⟨x5, _, h⟩ := vlet_ex h
      obtain ⟨S6, e_, h⟩ := vlet_ex (chk_some h).2
      replace F := F.trans (Fr.sto (w := W_X12_mark) (k := 53) e_ rfl)
      exact fr_end h F
theorem fr_X12_mark (a1 : Int32) (a2 : Int32) (S : St) {r0 : Int32 × St} (h : f_X12_mark a1 a2 S = some r0) : Fr W_X12_mark S r0.2 := by
  have F : Fr W_X12_mark S S := Fr.rf
  unfold f_X12_mark at h
  exact F.trans (fr_X12_mark_b0 a1 a2 S h)
def W_X11_isTick : List Nat × List Nat × List Nat × Bool := ([], [], [], false)
theorem fr_X11_isTick_b0 (a1 : Int32) (S : St) {r0 : Int32 × St} (h : f_X11_isTick_b0 a1 S = some r0) : Fr W_X11_isTick S r0.2 := by
  have F : Fr W_X11_isTick S S := Fr.rf
  unfold f_X11_isTick_b0 at h
  obtain ⟨⟨r2, S1⟩, e_, h⟩ := bnd_some h
  replace F := F.trans ((fr_X11_isWithin a1 0 20000 _ e_).mono (w1 := W_X11_isTick) rfl rfl rfl rfl)
  exact fr_end (chk_some h).2 F
theorem fr_X11_isTick (a1 : Int32) (S : St) {r0 : Int32 × St} (h : f_X11_isTick a1 S = some r0) : Fr W_X11_isTick S r0.2 := by
  have F : Fr W_X11_isTick S S := Fr.rf
  unfold f_X11_isTick at h
  exact F.trans (fr_X11_isTick_b0 a1 S h)
def W_X2_moveUpFrom : List Nat × List Nat × List Nat × Bool := ([3], [18, 19, 20], [], false)
theorem fr_X2_moveUpFrom_b5 {rec5 : Int32 × St → Option (Unit × St)} (v1 : Int32) (v2 : Int32) (hrec5 : ∀ (s : Int32 × St) (r : Unit × St), rec5 s = some r → Fr W_X2_moveUpFrom (s.2) r.2) (S : St) {r0 : Unit × St} (h : f_X2_moveUpFrom_b5 rec5 v1 v2 S = some r0) : Fr W_X2_moveUpFrom S r0.2 := by
  have F : Fr W_X2_moveUpFrom S S := Fr.rf
  unfold f_X2_moveUpFrom_b5 at h
  rcases ite_or h with h | h
  · obtain ⟨S2, e_, h⟩ := vlet_ex h
    replace F := F.trans (Fr.pI (w := W_X2_moveUpFrom) (k := 3) e_ rfl)
    exact fr_end h F
  · replace h := (chk_some h).2
    obtain ⟨S3, e_, h⟩ := vlet_ex (chk_some h).2
    replace F := F.trans (Fr.sto (w := W_X2_moveUpFrom) (k := 18) e_ rfl)
    replace h := (chk_some h).2
    obtain ⟨S4, e_, h⟩ := vlet_ex (chk_some h).2
    replace F := F.trans (Fr.sto (w := W_X2_moveUpFrom) (k := 19) e_ rfl)
    replace h := (chk_some h).2
    obtain ⟨S5, e_, h⟩ := vlet_ex (chk_some h).2
    replace F := F.trans (Fr.sto (w := W_X2_moveUpFrom) (k := 20) e_ rfl)
    exact F.trans (hrec5 (v2 + (-1), S5) _ h)
theorem fr_X2_moveUpFrom_l5 (v1 : Int32) : ∀ (n : Nat) (s : Int32 × St) (r : Unit × St), f_X2_moveUpFrom_l5 v1 n s = some r → Fr W_X2_moveUpFrom (s.2) r.2 :=
  loop_sound (fun rec5 hrec5 s r h => fr_X2_moveUpFrom_b5 v1 s.1 hrec5 s.2 h)
theorem fr_X2_moveUpFrom_b0 (a1 : Int32) (S : St) {r0 : Unit × St} (h : f_X2_moveUpFrom_b0 a1 S = some r0) : Fr W_X2_moveUpFrom S r0.2 := by
  have F : Fr W_X2_moveUpFrom S S := Fr.rf
  unfold f_X2_moveUpFrom_b0 at h
  obtain ⟨x1, _, h⟩ := vlet_ex h
  exact F.trans (fr_X2_moveUpFrom_l5 a1 _ (x1, S) _ h)
theorem fr_X2_moveUpFrom (a1 : Int32) (S : St) {r0 : Unit × St} (h : f_X2_moveUpFrom a1 S = some r0) : Fr W_X2_moveUpFrom S r0.2 := by
  have F : Fr W_X2_moveUpFrom S S := Fr.rf
  unfold f_X2_moveUpFrom at h
  exact F.trans (fr_X2_moveUpFrom_b0 a1 S h)
def W_X2_put : List Nat × List Nat × List Nat × Bool := ([3], [18, 19, 20], [], false)
theorem fr_X2_put_b85 (v1 : Int32) (v2 : Int32) (v3 : Int32) (v4 : Int32) (S : St) {r0 : Int32 × St} (h : f_X2_put_b85 v1 v2 v3 v4 S = some r0) : Fr W_X2_put S r0.2 := by
  have F : Fr W_X2_put S S := Fr.rf
  unfold f_X2_put_b85 at h
  obtain ⟨S1, e_, h⟩ := vlet_ex (chk_some h).2
  replace F := F.trans (Fr.sto (w := W_X2_put) (k := 18) e_ rfl)
  obtain ⟨S2, e_, h⟩ := vlet_ex (chk_some h).2
  replace F := F.trans (Fr.sto (w := W_X2_put) (k := 19) e_ rfl)
  obtain ⟨S3, e_, h⟩ := vlet_ex (chk_some h).2
  replace F := F.trans (Fr.sto (w := W_X2_put) (k := 20) e_ rfl)
  exact fr_end h F
theorem fr_X2_put_b74 (v1 : Int32) (v2 : Int32) (v3 : Int32) (v4 : Int32) (v5 : Int32) (S : St) {r0 : Int32 × St} (h : f_X2_put_b74 v1 v2 v3 v4 v5 S = some r0) : Fr W_X2_put S r0.2 := by
  have F : Fr W_X2_put S S := Fr.rf
  unfold f_X2_put_b74 at h
  rcases ite_or h with h | h
  · obtain ⟨⟨_u4, S4⟩, e_, h⟩ := bnd_some h
    replace F := F.trans ((fr_X2_moveUpFrom v4 _ e_).mono (w1 := W_X2_put) rfl rfl rfl rfl)
    exact F.trans (fr_X2_put_b85 v1 v2 v3 v4 S4 h)
  · exact F.trans (fr_X2_put_b85 v1 v2 v3 v4 S h)
theorem fr_X2_put_b54 (v1 : Int32) (v2 : Int32) (v3 : Int32) (v4 : Int32) (w0 : Int32) (S : St) {r0 : Int32 × St} (h : f_X2_put_b54 v1 v2 v3 v4 w0 S = some r0) : Fr W_X2_put S r0.2 := by
  have F : Fr W_X2_put S S := Fr.rf
  unfold f_X2_put_b54 at h
  rcases ite_or h with h | h
  · rcases ite_or h with h | h
    · exact F.trans (fr_X2_put_b74 v1 v2 v3 v4 w0 S h)
    · exact fr_end h F
  · exact F.trans (fr_X2_put_b74 v1 v2 v3 v4 w0 S h)
theorem fr_X2_put_b53 (v1 : Int32) (v2 : Int32) (v3 : Int32) (v4 : Int32) (S : St) {r0 : Int32 × St} (h : f_X2_put_b53 v1 v2 v3 v4 S = some r0) : Fr W_X2_put S r0.2 := by
  have F : Fr W_X2_put S S := Fr.rf
  unfold f_X2_put_b53 at h
  exact F.trans (fr_X2_put_b54 v1 v2 v3 v4 0 S h)
theorem fr_X2_put_b29 (v1 : Int32) (v2 : Int32) (v3 : Int32) (v4 : Int32) (S : St) {r0 : Int32 × St} (h : f_X2_put_b29 v1 v2 v3 v4 S = some r0) : Fr W_X2_put S r0.2 := by
  have F : Fr W_X2_put S S := Fr.rf
  unfold f_X2_put_b29 at h
  rcases ite_or h with h | h
  · exact F.trans (fr_X2_put_b53 v1 v2 v3 v4 S h)
  · replace h := (chk_some h).2
    rcases ite_or h with h | h
    · exact F.trans (fr_X2_put_b54 v1 v2 v3 v4 1 S h)
    · exact F.trans (fr_X2_put_b53 v1 v2 v3 v4 S h)
theorem fr_X2_put_b3 {rec3 : Int32 × St → Option (Int32 × St)} (v1 : Int32) (v2 : Int32) (v3 : Int32) (v4 : Int32) (hrec3 : ∀ (s : Int32 × St) (r : Int32 × St), rec3 s = some r → Fr W_X2_put (s.2) r.2) (S : St) {r0 : Int32 × St} (h : f_X2_put_b3 rec3 v1 v2 v3 v4 S = some r0) : Fr W_X2_put S r0.2 := by
  have F : Fr W_X2_put S S := Fr.rf
  unfold f_X2_put_b3 at h
  rcases ite_or h with h | h
  · exact F.trans (fr_X2_put_b29 v1 v2 v3 v4 S h)
  · replace h := (chk_some h).2
    rcases ite_or h with h | h
    · exact F.trans (fr_X2_put_b29 v1 v2 v3 v4 S h)
    · exact F.trans (hrec3 (v4 + 1, S) _ h)
theorem fr_X2_put_l3 (v1 : Int32) (v2 : Int32) (v3 : Int32) : ∀ (n : Nat) (s : Int32 × St) (r : Int32 × St), f_X2_put_l3 v1 v2 v3 n s = some r → Fr W_X2_put (s.2) r.2 :=
  loop_sound (fun rec3 hrec3 s r h => fr_X2_put_b3 v1 v2 v3 s.1 hrec3 s.2 h)
theorem fr_X2_put_b0 (a1 : Int32) (a2 : Int32) (a3 : Int32) (S : St) {r0 : Int32 × St} (h : f_X2_put_b0 a1 a2 a3 S = some r0) : Fr W_X2_put S r0.2 := by
  have F : Fr W_X2_put S S := Fr.rf
  unfold f_X2_put_b0 at h
  exact F.trans (fr_X2_put_l3 a1 a2 a3 _ (0, S) _ h)
theorem fr_X2_put (a1 : Int32) (a2 : Int32) (a3 : Int32) (S : St) {r0 : Int32 × St} (h : f_X2_put a1 a2 a3 S = some r0) : Fr W_X2_put S r0.2 := by
  have F : Fr W_X2_put S S := Fr.rf
  unfold f_X2_put at h
  exact F.trans (fr_X2_put_b0 a1 a2 a3 S h)
def W_X11_level : List Nat × List Nat × List Nat × Bool := ([3], [18, 19, 20], [], false)
theorem fr_X11_level_b17 (S : St) {r0 : Int32 × St} (h : f_X11_level_b17 S = some r0) : Fr W_X11_level S r0.2 := by
  have F : Fr W_X11_level S S := Fr.rf
  unfold f_X11_level_b17 at h
  exact fr_end h F
theorem fr_X11_level_b0 (a1 : Int32) (a2 : Int32) (a3 : Int32) (S : St) {r0 : Int32 × St} (h : f_X11_level_b0 a1 a2 a3 S = some r0) : Fr W_X11_level S r0.2 := by
  have F : Fr W_X11_level S S := Fr.rf
  unfold f_X11_level_b0 at h
  obtain ⟨⟨r2, S1⟩, e_, h⟩ := bnd_some h
  replace F := F.trans ((fr_X11_isTick a1 _ e_).mono (w1 := W_X11_level) rfl rfl rfl rfl)
  rcases ite_or h with h | h
  · exact F.trans (fr_X11_level_b17  S1 h)
  · obtain ⟨⟨r4, S3⟩, e_, h⟩ := bnd_some h
    replace F := F.trans ((fr_X11_isWithin a2 1 127 _ e_).mono (w1 := W_X11_level) rfl rfl rfl rfl)
    rcases ite_or h with h | h
    · exact F.trans (fr_X11_level_b17  S3 h)
    · obtain ⟨⟨r6, S5⟩, e_, h⟩ := bnd_some h
      replace F := F.trans ((fr_X2_put a1 a2 a3 _ e_).mono (w1 := W_X11_level) rfl rfl rfl rfl)
      exact fr_end h F
theorem fr_X11_level (a1 : Int32) (a2 : Int32) (a3 : Int32) (S : St) {r0 : Int32 × St} (h : f_X11_level a1 a2 a3 S = some r0) : Fr W_X11_level S r0.2 := by
  have F : Fr W_X11_level S S := Fr.rf
  unfold f_X11_level at h
  exact F.trans (fr_X11_level_b0 a1 a2 a3 S h)
def W_X12_level : List Nat × List Nat × List Nat × Bool := ([24], [54, 55, 56], [], false)
theorem fr_X12_level_b24 (S : St) {r0 : Int32 × St} (h : f_X12_level_b24 S = some r0) : Fr W_X12_level S r0.2 := by
  have F : Fr W_X12_level S S := Fr.rf
  unfold f_X12_level_b24 at h
  exact fr_end h F
theorem fr_X12_level_b110 (v1 : Int32) (v2 : Int32) (v3 : Int32) (v4 : Int32) (S : St) {r0 : Int32 × St} (h : f_X12_level_b110 v1 v2 v3 v4 S = some r0) : Fr W_X12_level S r0.2 := by
  have F : Fr W_X12_level S S := Fr.rf
  unfold f_X12_level_b110 at h
  obtain ⟨S5, e_, h⟩ := vlet_ex (chk_some h).2
  replace F := F.trans (Fr.sto (w := W_X12_level) (k := 54) e_ rfl)
  obtain ⟨S6, e_, h⟩ := vlet_ex (chk_some h).2
  replace F := F.trans (Fr.sto (w := W_X12_level) (k := 55) e_ rfl)
  obtain ⟨S7, e_, h⟩ := vlet_ex (chk_some h).2
  replace F := F.trans (Fr.sto (w := W_X12_level) (k := 56) e_ rfl)
  exact fr_end h F
theorem fr_X12_level_b88 (v1 : Int32) (v2 : Int32) (v3 : Int32) (v4 : Int32) (S : St) {r0 : Int32 × St} (h : f_X12_level_b88 v1 v2 v3 v4 S = some r0) : Fr W_X12_level S r0.2 := by
  have F : Fr W_X12_level S S := Fr.rf
  unfold f_X12_level_b88 at h
  rcases ite_or h with h | h
  · obtain ⟨x8, _, h⟩ := vlet_ex h
    obtain ⟨S9, e_, h⟩ := vlet_ex h
    replace F := F.trans (Fr.pI (w := W_X12_level) (k := 24) e_ rfl)
    exact F.trans (fr_X12_level_b110 v1 v2 v3 x8 S9 h)
  · exact F.trans (fr_X12_level_b110 v1 v2 v3 v4 S h)
theorem fr_X12_level_b61 {rec34 : Int32 × Int32 × St → Option (Int32 × St)} (v1 : Int32) (v2 : Int32) (v3 : Int32) (v5 : Int32) (w0 : Int32) (hrec34 : ∀ (s : Int32 × Int32 × St) (r : Int32 × St), rec34 s = some r → Fr W_X12_level (s.2.2) r.2) (S : St) {r0 : Int32 × St} (h : f_X12_level_b61 rec34 v1 v2 v3 v5 w0 S = some r0) : Fr W_X12_level S r0.2 := by
  have F : Fr W_X12_level S S := Fr.rf
  unfold f_X12_level_b61 at h
  exact F.trans (hrec34 (w0, v5 + 1, S) _ h)
theorem fr_X12_level_b34 {rec34 : Int32 × Int32 × St → Option (Int32 × St)} (v1 : Int32) (v2 : Int32) (v3 : Int32) (v4 : Int32) (v5 : Int32) (hrec34 : ∀ (s : Int32 × Int32 × St) (r : Int32 × St), rec34 s = some r → Fr W_X12_level (s.2.2) r.2) (S : St) {r0 : Int32 × St} (h : f_X12_level_b34 rec34 v1 v2 v3 v4 v5 S = some r0) : Fr W_X12_level S r0.2 := by
  have F : Fr W_X12_level S S := Fr.rf
  unfold f_X12_level_b34 at h
  rcases ite_or h with h | h
  · rcases ite_or h with h | h
    · rcases ite_or h with h | h
      · exact fr_end h F
      · exact F.trans (fr_X12_level_b88 v1 v2 v3 v4 S h)
    · exact F.trans (fr_X12_level_b88 v1 v2 v3 v4 S h)
  · replace h := (chk_some h).2
    rcases ite_or h with h | h
    · exact F.trans (fr_X12_level_b61 v1 v2 v3 v5 v5 hrec34 S h)
    · exact F.trans (fr_X12_level_b61 v1 v2 v3 v5 v4 hrec34 S h)
theorem fr_X12_level_l34 (v1 : Int32) (v2 : Int32) (v3 : Int32) : ∀ (n : Nat) (s : Int32 × Int32 × St) (r : Int32 × St), f_X12_level_l34 v1 v2 v3 n s = some r → Fr W_X12_level (s.2.2) r.2 :=
  loop_sound (fun rec34 hrec34 s r h => fr_X12_level_b34 v1 v2 v3 s.1 s.2.1 hrec34 s.2.2 h)
theorem fr_X12_level_b0 (a1 : Int32) (a2 : Int32) (a3 : Int32) (S : St) {r0 : Int32 × St} (h : f_X12_level_b0 a1 a2 a3 S = some r0) : Fr W_X12_level S r0.2 := by
  have F : Fr W_X12_level S S := Fr.rf
  unfold f_X12_level_b0 at h
  obtain ⟨⟨r2, S1⟩, e_, h⟩ := bnd_some h
  replace F := F.trans ((fr_X12_in (Int32.toInt64 a1) 0 20000 _ e_).mono (w1 := W_X12_level) rfl rfl rfl rfl)
  rcases ite_or h with h | h
  · exact F.trans (fr_X12_level_b24  S1 h)
  · obtain ⟨⟨r4, S3⟩, e_, h⟩ := bnd_some h
    replace F := F.trans ((fr_X12_in (Int32.toInt64 a2) 1 127 _ e_).mono (w1 := W_X12_level) rfl rfl rfl rfl)
    rcases ite_or h with h | h
    · exact F.trans (fr_X12_level_b24  S3 h)
    · exact F.trans (fr_X12_level_l34 a1 a2 a3 _ ((-1), 0, S3) _ h)
theorem fr_X12_level (a1 : Int32) (a2 : Int32) (a3 : Int32) (S : St) {r0 : Int32 × St} (h : f_X12_level a1 a2 a3 S = some r0) : Fr W_X12_level S r0.2 := by
  have F : Fr W_X12_level S S := Fr.rf
  unfold f_X12_level at h
  exact F.trans (fr_X12_level_b0 a1 a2 a3 S h)
def W_X9_beat : List Nat × List Nat × List Nat × Bool := ([0, 1], [], [], false)
theorem fr_X9_beat_b0 (a1 : Int32) (a2 : Int32) (S : St) {r0 : Unit × St} (h : f_X9_beat_b0 a1 a2 S = some r0) : Fr W_X9_beat S r0.2 := by
  have F : Fr W_X9_beat S S := Fr.rf
  unfold f_X9_beat_b0 at h
  obtain ⟨S1, e_, h⟩ := vlet_ex h
  replace F := F.trans (Fr.pI (w := W_X9_beat) (k := 0) e_ rfl)
  obtain ⟨S2, e_, h⟩ := vlet_ex h
  replace F := F.trans (Fr.pI (w := W_X9_beat) (k := 1) e_ rfl)
  exact fr_end h F
theorem fr_X9_beat (a1 : Int32) (a2 : Int32) (S : St) {r0 : Unit × St} (h : f_X9_beat a1 a2 S = some r0) : Fr W_X9_beat S r0.2 := by
  have F : Fr W_X9_beat S S := Fr.rf
  unfold f_X9_beat at h
  exact F.trans (fr_X9_beat_b0 a1 a2 S h)
def W_X11_meter : List Nat × List Nat × List Nat × Bool := ([0, 1], [], [], false)
theorem fr_X11_meter_b21 (S : St) {r0 : Int32 × St} (h : f_X11_meter_b21 S = some r0) : Fr W_X11_meter S r0.2 := by
  have F : Fr W_X11_meter S S := Fr.rf
  unfold f_X11_meter_b21 at h
  exact fr_end h F
theorem fr_X11_meter_b0 (a1 : Int32) (a2 : Int32) (S : St) {r0 : Int32 × St} (h : f_X11_meter_b0 a1 a2 S = some r0) : Fr W_X11_meter S r0.2 := by
  have F : Fr W_X11_meter S S := Fr.rf
  unfold f_X11_meter_b0 at h
  obtain ⟨⟨r2, S1⟩, e_, h⟩ := bnd_some h
  replace F := F.trans ((fr_X11_isWithin a1 1 12 _ e_).mono (w1 := W_X11_meter) rfl rfl rfl rfl)
  rcases ite_or h with h | h
  · exact F.trans (fr_X11_meter_b21  S1 h)
  · obtain ⟨⟨r4, S3⟩, e_, h⟩ := bnd_some h
    replace F := F.trans ((fr_X11_isWithin a2 1 960 _ e_).mono (w1 := W_X11_meter) rfl rfl rfl rfl)
    rcases ite_or h with h | h
    · exact F.trans (fr_X11_meter_b21  S3 h)
    · obtain ⟨⟨_u5, S5⟩, e_, h⟩ := bnd_some h
      replace F := F.trans ((fr_X9_beat a1 a2 _ e_).mono (w1 := W_X11_meter) rfl rfl rfl rfl)
      exact fr_end h F
theorem fr_X11_meter (a1 : Int32) (a2 : Int32) (S : St) {r0 : Int32 × St} (h : f_X11_meter a1 a2 S = some r0) : Fr W_X11_meter S r0.2 := by
  have F : Fr W_X11_meter S S := Fr.rf
  unfold f_X11_meter at h
  exact F.trans (fr_X11_meter_b0 a1 a2 S h)
def W_X12_meter : List Nat × List Nat × List Nat × Bool := ([25, 26], [], [], false)
theorem fr_X12_meter_b24 (S : St) {r0 : Int32 × St} (h : f_X12_meter_b24 S = some r0) : Fr W_X12_meter S r0.2 := by
  have F : Fr W_X12_meter S S := Fr.rf
  unfold f_X12_meter_b24 at h
  exact fr_end h F
theorem fr_X12_meter_b0 (a1 : Int32) (a2 : Int32) (S : St) {r0 : Int32 × St} (h : f_X12_meter_b0 a1 a2 S = some r0) : Fr W_X12_meter S r0.2 := by
  have F : Fr W_X12_meter S S := Fr.rf
  unfold f_X12_meter_b0 at h
  obtain ⟨⟨r2, S1⟩, e_, h⟩ := bnd_some h
  replace F := F.trans ((fr_X12_in (Int32.toInt64 a1) 1 12 _ e_).mono (w1 := W_X12_meter) rfl rfl rfl rfl)
  rcases ite_or h with h | h
  · exact F.trans (fr_X12_meter_b24  S1 h)
  · obtain ⟨⟨r4, S3⟩, e_, h⟩ := bnd_some h
    replace F := F.trans ((fr_X12_in (Int32.toInt64 a2) 1 960 _ e_).mono (w1 := W_X12_meter) rfl rfl rfl rfl)
    rcases ite_or h with h | h
    · exact F.trans (fr_X12_meter_b24  S3 h)
    · obtain ⟨S5, e_, h⟩ := vlet_ex h
      replace F := F.trans (Fr.pI (w := W_X12_meter) (k := 25) e_ rfl)
      obtain ⟨S6, e_, h⟩ := vlet_ex h
      replace F := F.trans (Fr.pI (w := W_X12_meter) (k := 26) e_ rfl)
      exact fr_end h F
theorem fr_X12_meter (a1 : Int32) (a2 : Int32) (S : St) {r0 : Int32 × St} (h : f_X12_meter a1 a2 S = some r0) : Fr W_X12_meter S r0.2 := by
  have F : Fr W_X12_meter S S := Fr.rf
  unfold f_X12_meter at h
  exact F.trans (fr_X12_meter_b0 a1 a2 S h)
def W_X0_shareWith : List Nat × List Nat × List Nat × Bool := ([], [], [], false)
theorem fr_X0_shareWith_b2 {rec2 : Int32 × St → Option (Int32 × St)} (v1 : Int32) (v2 : Int32) (v3 : Int32) (hrec2 : ∀ (s : Int32 × St) (r : Int32 × St), rec2 s = some r → Fr W_X0_shareWith (s.2) r.2) (S : St) {r0 : Int32 × St} (h : f_X0_shareWith_b2 rec2 v1 v2 v3 S = some r0) : Fr W_X0_shareWith S r0.2 := by
  have F : Fr W_X0_shareWith S S := Fr.rf
  unfold f_X0_shareWith_b2 at h
  rcases ite_or h with h | h
  · exact fr_end h F
  · replace h := (chk_some h).2
    replace h := (chk_some h).2
    rcases ite_or h with h | h
    · exact F.trans (hrec2 (v3 + 1, S) _ h)
    · exact fr_end h F
theorem fr_X0_shareWith_l2 (v1 : Int32) (v2 : Int32) : ∀ (n : Nat) (s : Int32 × St) (r : Int32 × St), f_X0_shareWith_l2 v1 v2 n s = some r → Fr W_X0_shareWith (s.2) r.2 :=
  loop_sound (fun rec2 hrec2 s r h => fr_X0_shareWith_b2 v1 v2 s.1 hrec2 s.2 h)
theorem fr_X0_shareWith_b0 (a1 : Int32) (a2 : Int32) (S : St) {r0 : Int32 × St} (h : f_X0_shareWith_b0 a1 a2 S = some r0) : Fr W_X0_shareWith S r0.2 := by
  have F : Fr W_X0_shareWith S S := Fr.rf
  unfold f_X0_shareWith_b0 at h
  exact F.trans (fr_X0_shareWith_l2 a1 a2 _ (0, S) _ h)
theorem fr_X0_shareWith (a1 : Int32) (a2 : Int32) (S : St) {r0 : Int32 × St} (h : f_X0_shareWith a1 a2 S = some r0) : Fr W_X0_shareWith S r0.2 := by
  have F : Fr W_X0_shareWith S S := Fr.rf
  unfold f_X0_shareWith at h
  exact F.trans (fr_X0_shareWith_b0 a1 a2 S h)
def W_X0_add : List Nat × List Nat × List Nat × Bool := ([4], [21, 22, 23], [], false)
theorem fr_X0_add_b0 (a1 : Int32) (a2 : Int32) (a3 : Int32) (S : St) {r0 : Int32 × St} (h : f_X0_add_b0 a1 a2 a3 S = some r0) : Fr W_X0_add S r0.2 := by
  have F : Fr W_X0_add S S := Fr.rf
  unfold f_X0_add_b0 at h
  rcases ite_or h with h | h
  · obtain ⟨S1, e_, h⟩ := vlet_ex (chk_some h).2
    replace F := F.trans (Fr.sto (w := W_X0_add) (k := 21) e_ rfl)
    obtain ⟨S2, e_, h⟩ := vlet_ex (chk_some h).2
    replace F := F.trans (Fr.sto (w := W_X0_add) (k := 22) e_ rfl)
    obtain ⟨S3, e_, h⟩ := vlet_ex (chk_some h).2
    replace F := F.trans (Fr.sto (w := W_X0_add) (k := 23) e_ rfl)
    obtain ⟨S4, e_, h⟩ := vlet_ex h
    replace F := F.trans (Fr.pI (w := W_X0_add) (k := 4) e_ rfl)
    exact fr_end h F
  · exact fr_end h F
theorem fr_X0_add (a1 : Int32) (a2 : Int32) (a3 : Int32) (S : St) {r0 : Int32 × St} (h : f_X0_add a1 a2 a3 S = some r0) : Fr W_X0_add S r0.2 := by
  have F : Fr W_X0_add S S := Fr.rf
  unfold f_X0_add at h
  exact F.trans (fr_X0_add_b0 a1 a2 a3 S h)
def W_X11_arc : List Nat × List Nat × List Nat × Bool := ([4], [21, 22, 23], [], false)
theorem fr_X11_arc_b32 (S : St) {r0 : Int32 × St} (h : f_X11_arc_b32 S = some r0) : Fr W_X11_arc S r0.2 := by
  have F : Fr W_X11_arc S S := Fr.rf
  unfold f_X11_arc_b32 at h
  exact fr_end h F
theorem fr_X11_arc_b0 (a1 : Int32) (a2 : Int32) (a3 : Int32) (S : St) {r0 : Int32 × St} (h : f_X11_arc_b0 a1 a2 a3 S = some r0) : Fr W_X11_arc S r0.2 := by
  have F : Fr W_X11_arc S S := Fr.rf
  unfold f_X11_arc_b0 at h
  obtain ⟨⟨r2, S1⟩, e_, h⟩ := bnd_some h
  replace F := F.trans ((fr_X11_isTick a1 _ e_).mono (w1 := W_X11_arc) rfl rfl rfl rfl)
  rcases ite_or h with h | h
  · exact F.trans (fr_X11_arc_b32  S1 h)
  · obtain ⟨⟨r4, S3⟩, e_, h⟩ := bnd_some h
    replace F := F.trans ((fr_X11_isTick a2 _ e_).mono (w1 := W_X11_arc) rfl rfl rfl rfl)
    rcases ite_or h with h | h
    · exact F.trans (fr_X11_arc_b32  S3 h)
    · rcases ite_or h with h | h
      · exact F.trans (fr_X11_arc_b32  S3 h)
      · obtain ⟨⟨r6, S5⟩, e_, h⟩ := bnd_some h
        replace F := F.trans ((fr_X11_isWithin a3 (-400) 400 _ e_).mono (w1 := W_X11_arc) rfl rfl rfl rfl)
        rcases ite_or h with h | h
        · exact F.trans (fr_X11_arc_b32  S5 h)
        · obtain ⟨⟨r8, S7⟩, e_, h⟩ := bnd_some h
          replace F := F.trans ((fr_X0_shareWith a1 a2 _ e_).mono (w1 := W_X11_arc) rfl rfl rfl rfl)
          rcases ite_or h with h | h
          · obtain ⟨⟨r10, S9⟩, e_, h⟩ := bnd_some h
            replace F := F.trans ((fr_X0_add a1 a2 a3 _ e_).mono (w1 := W_X11_arc) rfl rfl rfl rfl)
            exact fr_end h F
          · exact fr_end h F
theorem fr_X11_arc (a1 : Int32) (a2 : Int32) (a3 : Int32) (S : St) {r0 : Int32 × St} (h : f_X11_arc a1 a2 a3 S = some r0) : Fr W_X11_arc S r0.2 := by
  have F : Fr W_X11_arc S S := Fr.rf
  unfold f_X11_arc at h
  exact F.trans (fr_X11_arc_b0 a1 a2 a3 S h)
def W_X12_arc : List Nat × List Nat × List Nat × Bool := ([27], [57, 58, 59], [], false)
theorem fr_X12_arc_b30 (S : St) {r0 : Int32 × St} (h : f_X12_arc_b30 S = some r0) : Fr W_X12_arc S r0.2 := by
  have F : Fr W_X12_arc S S := Fr.rf
  unfold f_X12_arc_b30 at h
  exact fr_end h F
theorem fr_X12_arc_b72 {rec37 : Int32 × St → Option (Int32 × St)} (v1 : Int32) (v2 : Int32) (v3 : Int32) (v4 : Int32) (hrec37 : ∀ (s : Int32 × St) (r : Int32 × St), rec37 s = some r → Fr W_X12_arc (s.2) r.2) (S : St) {r0 : Int32 × St} (h : f_X12_arc_b72 rec37 v1 v2 v3 v4 S = some r0) : Fr W_X12_arc S r0.2 := by
  have F : Fr W_X12_arc S S := Fr.rf
  unfold f_X12_arc_b72 at h
  exact F.trans (hrec37 (v4 + 1, S) _ h)
theorem fr_X12_arc_b37 {rec37 : Int32 × St → Option (Int32 × St)} (v1 : Int32) (v2 : Int32) (v3 : Int32) (v4 : Int32) (hrec37 : ∀ (s : Int32 × St) (r : Int32 × St), rec37 s = some r → Fr W_X12_arc (s.2) r.2) (S : St) {r0 : Int32 × St} (h : f_X12_arc_b37 rec37 v1 v2 v3 v4 S = some r0) : Fr W_X12_arc S r0.2 := by
  have F : Fr W_X12_arc S S := Fr.rf
  unfold f_X12_arc_b37 at h
  rcases ite_or h with h | h
  · rcases ite_or h with h | h
    · exact fr_end h F
    · obtain ⟨S3, e_, h⟩ := vlet_ex (chk_some h).2
      replace F := F.trans (Fr.sto (w := W_X12_arc) (k := 57) e_ rfl)
      obtain ⟨S4, e_, h⟩ := vlet_ex (chk_some h).2
      replace F := F.trans (Fr.sto (w := W_X12_arc) (k := 58) e_ rfl)
      obtain ⟨S5, e_, h⟩ := vlet_ex (chk_some h).2
      replace F := F.trans (Fr.sto (w := W_X12_arc) (k := 59) e_ rfl)
      obtain ⟨S6, e_, h⟩ := vlet_ex h
      replace F := F.trans (Fr.pI (w := W_X12_arc) (k := 27) e_ rfl)
      exact fr_end h F
  · replace h := (chk_some h).2
    rcases ite_or h with h | h
    · exact F.trans (fr_X12_arc_b72 v1 v2 v3 v4 hrec37 S h)
    · replace h := (chk_some h).2
      rcases ite_or h with h | h
      · exact F.trans (fr_X12_arc_b72 v1 v2 v3 v4 hrec37 S h)
      · exact fr_end h F
theorem fr_X12_arc_l37 (v1 : Int32) (v2 : Int32) (v3 : Int32) : ∀ (n : Nat) (s : Int32 × St) (r : Int32 × St), f_X12_arc_l37 v1 v2 v3 n s = some r → Fr W_X12_arc (s.2) r.2 :=
  loop_sound (fun rec37 hrec37 s r h => fr_X12_arc_b37 v1 v2 v3 s.1 hrec37 s.2 h)
theorem fr_X12_arc_b0 (a1 : Int32) (a2 : Int32) (a3 : Int32) (S : St) {r0 : Int32 × St} (h : f_X12_arc_b0 a1 a2 a3 S = some r0) : Fr W_X12_arc S r0.2 := by
  have F : Fr W_X12_arc S S := Fr.rf
  unfold f_X12_arc_b0 at h
  rcases ite_or h with h | h
  · exact F.trans (fr_X12_arc_b30  S h)
  · rcases ite_or h with h | h
    · exact F.trans (fr_X12_arc_b30  S h)
    · rcases ite_or h with h | h
      · exact F.trans (fr_X12_arc_b30  S h)
      · obtain ⟨⟨r2, S1⟩, e_, h⟩ := bnd_some h
        replace F := F.trans ((fr_X12_in (Int32.toInt64 a3) (-400) 400 _ e_).mono (w1 := W_X12_arc) rfl rfl rfl rfl)
        rcases ite_or h with h | h
        · exact F.trans (fr_X12_arc_b30  S1 h)
        · exact F.trans (fr_X12_arc_l37 a1 a2 a3 _ (0, S1) _ h)
theorem fr_X12_arc (a1 : Int32) (a2 : Int32) (a3 : Int32) (S : St) {r0 : Int32 × St} (h : f_X12_arc a1 a2 a3 S = some r0) : Fr W_X12_arc S r0.2 := by
  have F : Fr W_X12_arc S S := Fr.rf
  unfold f_X12_arc at h
  exact F.trans (fr_X12_arc_b0 a1 a2 a3 S h)
def W_X11_quotient : List Nat × List Nat × List Nat × Bool := ([], [], [], false)
theorem fr_X11_quotient_b16 (w0 : Int32) (S : St) {r0 : Int32 × St} (h : f_X11_quotient_b16 w0 S = some r0) : Fr W_X11_quotient S r0.2 := by
  have F : Fr W_X11_quotient S S := Fr.rf
  unfold f_X11_quotient_b16 at h
  exact fr_end h F
theorem fr_X11_quotient_b0 (a1 : Int64) (a2 : Int64) (S : St) {r0 : Int32 × St} (h : f_X11_quotient_b0 a1 a2 S = some r0) : Fr W_X11_quotient S r0.2 := by
  have F : Fr W_X11_quotient S S := Fr.rf
  unfold f_X11_quotient_b0 at h
  rcases ite_or h with h | h
  · obtain ⟨⟨r2, S1⟩, e_, h⟩ := bnd_some h
    replace F := F.trans ((fr_J9_floorDiv_f86c9 a1 a2 _ e_).mono (w1 := W_X11_quotient) rfl rfl rfl rfl)
    exact F.trans (fr_X11_quotient_b16 (Int64.toInt32 r2) S1 h)
  · exact F.trans (fr_X11_quotient_b16 0 S h)
theorem fr_X11_quotient (a1 : Int64) (a2 : Int64) (S : St) {r0 : Int32 × St} (h : f_X11_quotient a1 a2 S = some r0) : Fr W_X11_quotient S r0.2 := by
  have F : Fr W_X11_quotient S S := Fr.rf
  unfold f_X11_quotient at h
  exact F.trans (fr_X11_quotient_b0 a1 a2 S h)
def W_X2_at : List Nat × List Nat × List Nat × Bool := ([], [], [], false)
theorem fr_X2_at_b54 (v3 : Int32) (S : St) {r0 : Int32 × St} (h : f_X2_at_b54 v3 S = some r0) : Fr W_X2_at S r0.2 := by
  have F : Fr W_X2_at S S := Fr.rf
  unfold f_X2_at_b54 at h
  replace h := (chk_some h).2
  exact fr_end h F
theorem fr_X2_at_b26 (v1 : Int32) (v2 : Int32) (S : St) {r0 : Int32 × St} (h : f_X2_at_b26 v1 v2 S = some r0) : Fr W_X2_at S r0.2 := by
  have F : Fr W_X2_at S S := Fr.rf
  unfold f_X2_at_b26 at h
  rcases ite_or h with h | h
  · exact fr_end h F
  · obtain ⟨x1, _, h⟩ := vlet_ex h
    rcases ite_or h with h | h
    · exact F.trans (fr_X2_at_b54 x1 S h)
    · replace h := (chk_some h).2
      rcases ite_or h with h | h
      · exact F.trans (fr_X2_at_b54 x1 S h)
      · replace h := (chk_some h).2
        replace h := (chk_some h).2
        replace h := (chk_some h).2
        obtain ⟨y2, _, h⟩ := vlet_ex h
        replace h := (chk_some h).2
        replace h := (chk_some h).2
        replace h := (chk_some h).2
        obtain ⟨⟨r4, S3⟩, e_, h⟩ := bnd_some h
        replace F := F.trans ((fr_X11_quotient y2 (Int32.toInt64 ((rd S 18 v2) - (rd S 18 x1))) _ e_).mono (w1 := W_X2_at) rfl rfl rfl rfl)
        exact fr_end h F
theorem fr_X2_at_b2 {rec2 : Int32 × St → Option (Int32 × St)} (v1 : Int32) (v2 : Int32) (hrec2 : ∀ (s : Int32 × St) (r : Int32 × St), rec2 s = some r → Fr W_X2_at (s.2) r.2) (S : St) {r0 : Int32 × St} (h : f_X2_at_b2 rec2 v1 v2 S = some r0) : Fr W_X2_at S r0.2 := by
  have F : Fr W_X2_at S S := Fr.rf
  unfold f_X2_at_b2 at h
  rcases ite_or h with h | h
  · exact F.trans (fr_X2_at_b26 v1 v2 S h)
  · replace h := (chk_some h).2
    rcases ite_or h with h | h
    · exact F.trans (fr_X2_at_b26 v1 v2 S h)
    · exact F.trans (hrec2 (v2 + 1, S) _ h)
theorem fr_X2_at_l2 (v1 : Int32) : ∀ (n : Nat) (s : Int32 × St) (r : Int32 × St), f_X2_at_l2 v1 n s = some r → Fr W_X2_at (s.2) r.2 :=
  loop_sound (fun rec2 hrec2 s r h => fr_X2_at_b2 v1 s.1 hrec2 s.2 h)
theorem fr_X2_at_b0 (a1 : Int32) (S : St) {r0 : Int32 × St} (h : f_X2_at_b0 a1 S = some r0) : Fr W_X2_at S r0.2 := by
  have F : Fr W_X2_at S S := Fr.rf
  unfold f_X2_at_b0 at h
  exact F.trans (fr_X2_at_l2 a1 _ (0, S) _ h)
theorem fr_X2_at (a1 : Int32) (S : St) {r0 : Int32 × St} (h : f_X2_at a1 S = some r0) : Fr W_X2_at S r0.2 := by
  have F : Fr W_X2_at S S := Fr.rf
  unfold f_X2_at at h
  exact F.trans (fr_X2_at_b0 a1 S h)
def W_X11_levelAt : List Nat × List Nat × List Nat × Bool := ([], [], [], false)
theorem fr_X11_levelAt_b24 (w0 : Int32) (S : St) {r0 : Int32 × St} (h : f_X11_levelAt_b24 w0 S = some r0) : Fr W_X11_levelAt S r0.2 := by
  have F : Fr W_X11_levelAt S S := Fr.rf
  unfold f_X11_levelAt_b24 at h
  exact fr_end h F
theorem fr_X11_levelAt_b0 (a1 : Int32) (S : St) {r0 : Int32 × St} (h : f_X11_levelAt_b0 a1 S = some r0) : Fr W_X11_levelAt S r0.2 := by
  have F : Fr W_X11_levelAt S S := Fr.rf
  unfold f_X11_levelAt_b0 at h
  obtain ⟨⟨r2, S1⟩, e_, h⟩ := bnd_some h
  replace F := F.trans ((fr_X11_isTick a1 _ e_).mono (w1 := W_X11_levelAt) rfl rfl rfl rfl)
  rcases ite_or h with h | h
  · exact F.trans (fr_X11_levelAt_b24 (-1002) S1 h)
  · obtain ⟨⟨r4, S3⟩, e_, h⟩ := bnd_some h
    replace F := F.trans ((fr_X2_at a1 _ e_).mono (w1 := W_X11_levelAt) rfl rfl rfl rfl)
    exact F.trans (fr_X11_levelAt_b24 r4 S3 h)
theorem fr_X11_levelAt (a1 : Int32) (S : St) {r0 : Int32 × St} (h : f_X11_levelAt a1 S = some r0) : Fr W_X11_levelAt S r0.2 := by
  have F : Fr W_X11_levelAt S S := Fr.rf
  unfold f_X11_levelAt at h
  exact F.trans (fr_X11_levelAt_b0 a1 S h)
def W_X12_levelBy : List Nat × List Nat × List Nat × Bool := ([], [], [], false)
theorem fr_X12_levelBy_b108 {rec5 : Int32 × Int32 × St → Option (Int32 × St)} (v1 : Int32) (v2 : Int32) (v4 : Int32) (w0 : Int32) (hrec5 : ∀ (s : Int32 × Int32 × St) (r : Int32 × St), rec5 s = some r → Fr W_X12_levelBy (s.2.2) r.2) (S : St) {r0 : Int32 × St} (h : f_X12_levelBy_b108 rec5 v1 v2 v4 w0 S = some r0) : Fr W_X12_levelBy S r0.2 := by
  have F : Fr W_X12_levelBy S S := Fr.rf
  unfold f_X12_levelBy_b108 at h
  exact F.trans (hrec5 (w0, v4 + 1, S) _ h)
theorem fr_X12_levelBy_b95 {rec5 : Int32 × Int32 × St → Option (Int32 × St)} (v1 : Int32) (v2 : Int32) (v3 : Int32) (v4 : Int32) (w0 : Int32) (hrec5 : ∀ (s : Int32 × Int32 × St) (r : Int32 × St), rec5 s = some r → Fr W_X12_levelBy (s.2.2) r.2) (S : St) {r0 : Int32 × St} (h : f_X12_levelBy_b95 rec5 v1 v2 v3 v4 w0 S = some r0) : Fr W_X12_levelBy S r0.2 := by
  have F : Fr W_X12_levelBy S S := Fr.rf
  unfold f_X12_levelBy_b95 at h
  rcases ite_or h with h | h
  · exact F.trans (fr_X12_levelBy_b108 v1 v2 v4 v3 hrec5 S h)
  · exact F.trans (fr_X12_levelBy_b108 v1 v2 v4 v4 hrec5 S h)
theorem fr_X12_levelBy_b94 {rec5 : Int32 × Int32 × St → Option (Int32 × St)} (v1 : Int32) (v2 : Int32) (v3 : Int32) (v4 : Int32) (hrec5 : ∀ (s : Int32 × Int32 × St) (r : Int32 × St), rec5 s = some r → Fr W_X12_levelBy (s.2.2) r.2) (S : St) {r0 : Int32 × St} (h : f_X12_levelBy_b94 rec5 v1 v2 v3 v4 S = some r0) : Fr W_X12_levelBy S r0.2 := by
  have F : Fr W_X12_levelBy S S := Fr.rf
  unfold f_X12_levelBy_b94 at h
  exact F.trans (fr_X12_levelBy_b95 v1 v2 v3 v4 0 hrec5 S h)
theorem fr_X12_levelBy_b90 {rec5 : Int32 × Int32 × St → Option (Int32 × St)} (v1 : Int32) (v2 : Int32) (v3 : Int32) (v4 : Int32) (hrec5 : ∀ (s : Int32 × Int32 × St) (r : Int32 × St), rec5 s = some r → Fr W_X12_levelBy (s.2.2) r.2) (S : St) {r0 : Int32 × St} (h : f_X12_levelBy_b90 rec5 v1 v2 v3 v4 S = some r0) : Fr W_X12_levelBy S r0.2 := by
  have F : Fr W_X12_levelBy S S := Fr.rf
  unfold f_X12_levelBy_b90 at h
  exact F.trans (fr_X12_levelBy_b95 v1 v2 v3 v4 1 hrec5 S h)
theorem fr_X12_levelBy_b54 {rec5 : Int32 × Int32 × St → Option (Int32 × St)} (v1 : Int32) (v2 : Int32) (v3 : Int32) (v4 : Int32) (hrec5 : ∀ (s : Int32 × Int32 × St) (r : Int32 × St), rec5 s = some r → Fr W_X12_levelBy (s.2.2) r.2) (S : St) {r0 : Int32 × St} (h : f_X12_levelBy_b54 rec5 v1 v2 v3 v4 S = some r0) : Fr W_X12_levelBy S r0.2 := by
  have F : Fr W_X12_levelBy S S := Fr.rf
  unfold f_X12_levelBy_b54 at h
  exact F.trans (fr_X12_levelBy_b95 v1 v2 v3 v4 0 hrec5 S h)
theorem fr_X12_levelBy_b50 {rec5 : Int32 × Int32 × St → Option (Int32 × St)} (v1 : Int32) (v2 : Int32) (v3 : Int32) (v4 : Int32) (hrec5 : ∀ (s : Int32 × Int32 × St) (r : Int32 × St), rec5 s = some r → Fr W_X12_levelBy (s.2.2) r.2) (S : St) {r0 : Int32 × St} (h : f_X12_levelBy_b50 rec5 v1 v2 v3 v4 S = some r0) : Fr W_X12_levelBy S r0.2 := by
  have F : Fr W_X12_levelBy S S := Fr.rf
  unfold f_X12_levelBy_b50 at h
  exact F.trans (fr_X12_levelBy_b95 v1 v2 v3 v4 1 hrec5 S h)
theorem fr_X12_levelBy_b5 {rec5 : Int32 × Int32 × St → Option (Int32 × St)} (v1 : Int32) (v2 : Int32) (v3 : Int32) (v4 : Int32) (hrec5 : ∀ (s : Int32 × Int32 × St) (r : Int32 × St), rec5 s = some r → Fr W_X12_levelBy (s.2.2) r.2) (S : St) {r0 : Int32 × St} (h : f_X12_levelBy_b5 rec5 v1 v2 v3 v4 S = some r0) : Fr W_X12_levelBy S r0.2 := by
  have F : Fr W_X12_levelBy S S := Fr.rf
  unfold f_X12_levelBy_b5 at h
  rcases ite_or h with h | h
  · exact fr_end h F
  · rcases ite_or h with h | h
    · replace h := (chk_some h).2
      rcases ite_or h with h | h
      · exact F.trans (fr_X12_levelBy_b94 v1 v2 v3 v4 hrec5 S h)
      · rcases ite_or h with h | h
        · exact F.trans (fr_X12_levelBy_b90 v1 v2 v3 v4 hrec5 S h)
        · replace h := (chk_some h).2
          replace h := (chk_some h).2
          rcases ite_or h with h | h
          · exact F.trans (fr_X12_levelBy_b94 v1 v2 v3 v4 hrec5 S h)
          · exact F.trans (fr_X12_levelBy_b90 v1 v2 v3 v4 hrec5 S h)
    · replace h := (chk_some h).2
      rcases ite_or h with h | h
      · exact F.trans (fr_X12_levelBy_b54 v1 v2 v3 v4 hrec5 S h)
      · rcases ite_or h with h | h
        · exact F.trans (fr_X12_levelBy_b50 v1 v2 v3 v4 hrec5 S h)
        · replace h := (chk_some h).2
          replace h := (chk_some h).2
          rcases ite_or h with h | h
          · exact F.trans (fr_X12_levelBy_b54 v1 v2 v3 v4 hrec5 S h)
          · exact F.trans (fr_X12_levelBy_b50 v1 v2 v3 v4 hrec5 S h)
theorem fr_X12_levelBy_l5 (v1 : Int32) (v2 : Int32) : ∀ (n : Nat) (s : Int32 × Int32 × St) (r : Int32 × St), f_X12_levelBy_l5 v1 v2 n s = some r → Fr W_X12_levelBy (s.2.2) r.2 :=
  loop_sound (fun rec5 hrec5 s r h => fr_X12_levelBy_b5 v1 v2 s.1 s.2.1 hrec5 s.2.2 h)
theorem fr_X12_levelBy_b0 (a1 : Int32) (a2 : Int32) (S : St) {r0 : Int32 × St} (h : f_X12_levelBy_b0 a1 a2 S = some r0) : Fr W_X12_levelBy S r0.2 := by
  have F : Fr W_X12_levelBy S S := Fr.rf
  unfold f_X12_levelBy_b0 at h
  exact F.trans (fr_X12_levelBy_l5 a1 a2 _ ((-1), 0, S) _ h)
theorem fr_X12_levelBy (a1 : Int32) (a2 : Int32) (S : St) {r0 : Int32 × St} (h : f_X12_levelBy a1 a2 S = some r0) : Fr W_X12_levelBy S r0.2 := by
  have F : Fr W_X12_levelBy S S := Fr.rf
  unfold f_X12_levelBy at h
  exact F.trans (fr_X12_levelBy_b0 a1 a2 S h)
def W_X12_floor : List Nat × List Nat × List Nat × Bool := ([], [], [], false)
theorem fr_X12_floor_b47 (w0 : Int64) (S : St) {r0 : Int64 × St} (h : f_X12_floor_b47 w0 S = some r0) : Fr W_X12_floor S r0.2 := by
  have F : Fr W_X12_floor S S := Fr.rf
  unfold f_X12_floor_b47 at h
  exact fr_end h F
theorem fr_X12_floor_b45 (v4 : Int64) (S : St) {r0 : Int64 × St} (h : f_X12_floor_b45 v4 S = some r0) : Fr W_X12_floor S r0.2 := by
  have F : Fr W_X12_floor S S := Fr.rf
  unfold f_X12_floor_b45 at h
  exact F.trans (fr_X12_floor_b47 v4 S h)
theorem fr_X12_floor_b35 (v4 : Int64) (w0 : Int32) (w1 : Int32) (S : St) {r0 : Int64 × St} (h : f_X12_floor_b35 v4 w0 w1 S = some r0) : Fr W_X12_floor S r0.2 := by
  have F : Fr W_X12_floor S S := Fr.rf
  unfold f_X12_floor_b35 at h
  rcases ite_or h with h | h
  · exact F.trans (fr_X12_floor_b45 v4 S h)
  · exact F.trans (fr_X12_floor_b47 (v4 - 1) S h)
theorem fr_X12_floor_b24 (v2 : Int64) (v4 : Int64) (w0 : Int32) (S : St) {r0 : Int64 × St} (h : f_X12_floor_b24 v2 v4 w0 S = some r0) : Fr W_X12_floor S r0.2 := by
  have F : Fr W_X12_floor S S := Fr.rf
  unfold f_X12_floor_b24 at h
  rcases ite_or h with h | h
  · exact F.trans (fr_X12_floor_b35 v4 w0 0 S h)
  · exact F.trans (fr_X12_floor_b35 v4 w0 1 S h)
theorem fr_X12_floor_b0 (a1 : Int64) (a2 : Int64) (S : St) {r0 : Int64 × St} (h : f_X12_floor_b0 a1 a2 S = some r0) : Fr W_X12_floor S r0.2 := by
  have F : Fr W_X12_floor S S := Fr.rf
  unfold f_X12_floor_b0 at h
  replace h := (chk_some h).2
  obtain ⟨y1, _, h⟩ := vlet_ex h
  replace h := (chk_some h).2
  rcases ite_or h with h | h
  · exact F.trans (fr_X12_floor_b45 y1 S h)
  · rcases ite_or h with h | h
    · exact F.trans (fr_X12_floor_b24 a2 y1 0 S h)
    · exact F.trans (fr_X12_floor_b24 a2 y1 1 S h)
theorem fr_X12_floor (a1 : Int64) (a2 : Int64) (S : St) {r0 : Int64 × St} (h : f_X12_floor a1 a2 S = some r0) : Fr W_X12_floor S r0.2 := by
  have F : Fr W_X12_floor S S := Fr.rf
  unfold f_X12_floor at h
  exact F.trans (fr_X12_floor_b0 a1 a2 S h)
def W_X12_highAt : List Nat × List Nat × List Nat × Bool := ([], [], [], false)
theorem fr_X12_highAt_b36 (v2 : Int32) (S : St) {r0 : Int32 × St} (h : f_X12_highAt_b36 v2 S = some r0) : Fr W_X12_highAt S r0.2 := by
  have F : Fr W_X12_highAt S S := Fr.rf
  unfold f_X12_highAt_b36 at h
  replace h := (chk_some h).2
  exact fr_end h F
theorem fr_X12_highAt_b0 (a1 : Int32) (S : St) {r0 : Int32 × St} (h : f_X12_highAt_b0 a1 S = some r0) : Fr W_X12_highAt S r0.2 := by
  have F : Fr W_X12_highAt S S := Fr.rf
  unfold f_X12_highAt_b0 at h
  obtain ⟨⟨r2, S1⟩, e_, h⟩ := bnd_some h
  replace F := F.trans ((fr_X12_levelBy a1 0 _ e_).mono (w1 := W_X12_highAt) rfl rfl rfl rfl)
  obtain ⟨⟨r4, S3⟩, e_, h⟩ := bnd_some h
  replace F := F.trans ((fr_X12_levelBy a1 1 _ e_).mono (w1 := W_X12_highAt) rfl rfl rfl rfl)
  rcases ite_or h with h | h
  · exact fr_end h F
  · rcases ite_or h with h | h
    · exact F.trans (fr_X12_highAt_b36 r2 S3 h)
    · replace h := (chk_some h).2
      rcases ite_or h with h | h
      · exact F.trans (fr_X12_highAt_b36 r2 S3 h)
      · replace h := (chk_some h).2
        replace h := (chk_some h).2
        replace h := (chk_some h).2
        replace h := (chk_some h).2
        replace h := (chk_some h).2
        replace h := (chk_some h).2
        obtain ⟨⟨r6, S5⟩, e_, h⟩ := bnd_some h
        replace F := F.trans ((fr_X12_floor ((Int32.toInt64 ((rd S3 55 r4) - (rd S3 55 r2))) * (Int32.toInt64 (a1 - (rd S3 54 r2)))) (Int32.toInt64 ((rd S3 54 r4) - (rd S3 54 r2))) _ e_).mono (w1 := W_X12_highAt) rfl rfl rfl rfl)
        exact fr_end h F
theorem fr_X12_highAt (a1 : Int32) (S : St) {r0 : Int32 × St} (h : f_X12_highAt a1 S = some r0) : Fr W_X12_highAt S r0.2 := by
  have F : Fr W_X12_highAt S S := Fr.rf
  unfold f_X12_highAt at h
  exact F.trans (fr_X12_highAt_b0 a1 S h)
def W_X12_levelAt : List Nat × List Nat × List Nat × Bool := ([], [], [], false)
theorem fr_X12_levelAt_b23 (w0 : Int32) (S : St) {r0 : Int32 × St} (h : f_X12_levelAt_b23 w0 S = some r0) : Fr W_X12_levelAt S r0.2 := by
  have F : Fr W_X12_levelAt S S := Fr.rf
  unfold f_X12_levelAt_b23 at h
  exact fr_end h F
theorem fr_X12_levelAt_b0 (a1 : Int32) (S : St) {r0 : Int32 × St} (h : f_X12_levelAt_b0 a1 S = some r0) : Fr W_X12_levelAt S r0.2 := by
  have F : Fr W_X12_levelAt S S := Fr.rf
  unfold f_X12_levelAt_b0 at h
  obtain ⟨⟨r2, S1⟩, e_, h⟩ := bnd_some h
  replace F := F.trans ((fr_X12_in (Int32.toInt64 a1) 0 20000 _ e_).mono (w1 := W_X12_levelAt) rfl rfl rfl rfl)
  rcases ite_or h with h | h
  · exact F.trans (fr_X12_levelAt_b23 (-1002) S1 h)
  · obtain ⟨⟨r4, S3⟩, e_, h⟩ := bnd_some h
    replace F := F.trans ((fr_X12_highAt a1 _ e_).mono (w1 := W_X12_levelAt) rfl rfl rfl rfl)
    exact F.trans (fr_X12_levelAt_b23 r4 S3 h)
theorem fr_X12_levelAt (a1 : Int32) (S : St) {r0 : Int32 × St} (h : f_X12_levelAt a1 S = some r0) : Fr W_X12_levelAt S r0.2 := by
  have F : Fr W_X12_levelAt S S := Fr.rf
  unfold f_X12_levelAt at h
  exact F.trans (fr_X12_levelAt_b0 a1 S h)
def W_X0_bent : List Nat × List Nat × List Nat × Bool := ([], [], [], false)
theorem fr_X0_bent_b2 {rec2 : Int32 × St → Option (Int32 × St)} (v1 : Int32) (v2 : Int32) (hrec2 : ∀ (s : Int32 × St) (r : Int32 × St), rec2 s = some r → Fr W_X0_bent (s.2) r.2) (S : St) {r0 : Int32 × St} (h : f_X0_bent_b2 rec2 v1 v2 S = some r0) : Fr W_X0_bent S r0.2 := by
  have F : Fr W_X0_bent S S := Fr.rf
  unfold f_X0_bent_b2 at h
  rcases ite_or h with h | h
  · exact fr_end h F
  · replace h := (chk_some h).2
    replace h := (chk_some h).2
    obtain ⟨⟨r2, S1⟩, e_, h⟩ := bnd_some h
    replace F := F.trans ((fr_X11_isWithin v1 (rd S 21 v2) (rd S 22 v2) _ e_).mono (w1 := W_X0_bent) rfl rfl rfl rfl)
    rcases ite_or h with h | h
    · exact F.trans (hrec2 (v2 + 1, S1) _ h)
    · replace h := (chk_some h).2
      replace h := (chk_some h).2
      obtain ⟨y3, _, h⟩ := vlet_ex h
      replace h := (chk_some h).2
      replace h := (chk_some h).2
      replace h := (chk_some h).2
      obtain ⟨⟨r5, S4⟩, e_, h⟩ := bnd_some h
      replace F := F.trans ((fr_X11_quotient (((4 * (Int32.toInt64 (rd S1 23 v2))) * (Int32.toInt64 (v1 - (rd S1 21 v2)))) * (Int32.toInt64 ((rd S1 22 v2) - v1))) (y3 * y3) _ e_).mono (w1 := W_X0_bent) rfl rfl rfl rfl)
      exact fr_end h F
theorem fr_X0_bent_l2 (v1 : Int32) : ∀ (n : Nat) (s : Int32 × St) (r : Int32 × St), f_X0_bent_l2 v1 n s = some r → Fr W_X0_bent (s.2) r.2 :=
  loop_sound (fun rec2 hrec2 s r h => fr_X0_bent_b2 v1 s.1 hrec2 s.2 h)
theorem fr_X0_bent_b0 (a1 : Int32) (S : St) {r0 : Int32 × St} (h : f_X0_bent_b0 a1 S = some r0) : Fr W_X0_bent S r0.2 := by
  have F : Fr W_X0_bent S S := Fr.rf
  unfold f_X0_bent_b0 at h
  exact F.trans (fr_X0_bent_l2 a1 _ (0, S) _ h)
theorem fr_X0_bent (a1 : Int32) (S : St) {r0 : Int32 × St} (h : f_X0_bent a1 S = some r0) : Fr W_X0_bent S r0.2 := by
  have F : Fr W_X0_bent S S := Fr.rf
  unfold f_X0_bent at h
  exact F.trans (fr_X0_bent_b0 a1 S h)
def W_X11_timeOf : List Nat × List Nat × List Nat × Bool := ([], [], [], false)
theorem fr_X11_timeOf_b24 (w0 : Int32) (S : St) {r0 : Int32 × St} (h : f_X11_timeOf_b24 w0 S = some r0) : Fr W_X11_timeOf S r0.2 := by
  have F : Fr W_X11_timeOf S S := Fr.rf
  unfold f_X11_timeOf_b24 at h
  exact fr_end h F
theorem fr_X11_timeOf_b0 (a1 : Int32) (S : St) {r0 : Int32 × St} (h : f_X11_timeOf_b0 a1 S = some r0) : Fr W_X11_timeOf S r0.2 := by
  have F : Fr W_X11_timeOf S S := Fr.rf
  unfold f_X11_timeOf_b0 at h
  obtain ⟨⟨r2, S1⟩, e_, h⟩ := bnd_some h
  replace F := F.trans ((fr_X11_isTick a1 _ e_).mono (w1 := W_X11_timeOf) rfl rfl rfl rfl)
  rcases ite_or h with h | h
  · exact F.trans (fr_X11_timeOf_b24 (-1002) S1 h)
  · obtain ⟨⟨r4, S3⟩, e_, h⟩ := bnd_some h
    replace F := F.trans ((fr_X0_bent a1 _ e_).mono (w1 := W_X11_timeOf) rfl rfl rfl rfl)
    exact F.trans (fr_X11_timeOf_b24 r4 S3 h)
theorem fr_X11_timeOf (a1 : Int32) (S : St) {r0 : Int32 × St} (h : f_X11_timeOf a1 S = some r0) : Fr W_X11_timeOf S r0.2 := by
  have F : Fr W_X11_timeOf S S := Fr.rf
  unfold f_X11_timeOf at h
  exact F.trans (fr_X11_timeOf_b0 a1 S h)
def W_X12_time : List Nat × List Nat × List Nat × Bool := ([], [], [], false)
theorem fr_X12_time_b89 {rec4 : Int32 × Int32 × St → Option (Int32 × St)} (v1 : Int32) (v2 : Int32) (v3 : Int32) (hrec4 : ∀ (s : Int32 × Int32 × St) (r : Int32 × St), rec4 s = some r → Fr W_X12_time (s.2.2) r.2) (S : St) {r0 : Int32 × St} (h : f_X12_time_b89 rec4 v1 v2 v3 S = some r0) : Fr W_X12_time S r0.2 := by
  have F : Fr W_X12_time S S := Fr.rf
  unfold f_X12_time_b89 at h
  exact F.trans (hrec4 (v2, v3 + 1, S) _ h)
theorem fr_X12_time_b4 {rec4 : Int32 × Int32 × St → Option (Int32 × St)} (v1 : Int32) (v2 : Int32) (v3 : Int32) (hrec4 : ∀ (s : Int32 × Int32 × St) (r : Int32 × St), rec4 s = some r → Fr W_X12_time (s.2.2) r.2) (S : St) {r0 : Int32 × St} (h : f_X12_time_b4 rec4 v1 v2 v3 S = some r0) : Fr W_X12_time S r0.2 := by
  have F : Fr W_X12_time S S := Fr.rf
  unfold f_X12_time_b4 at h
  rcases ite_or h with h | h
  · exact fr_end h F
  · replace h := (chk_some h).2
    rcases ite_or h with h | h
    · exact F.trans (fr_X12_time_b89 v1 v2 v3 hrec4 S h)
    · replace h := (chk_some h).2
      rcases ite_or h with h | h
      · exact F.trans (fr_X12_time_b89 v1 v2 v3 hrec4 S h)
      · replace h := (chk_some h).2
        replace h := (chk_some h).2
        obtain ⟨y1, _, h⟩ := vlet_ex h
        replace h := (chk_some h).2
        replace h := (chk_some h).2
        replace h := (chk_some h).2
        obtain ⟨⟨r3, S2⟩, e_, h⟩ := bnd_some h
        replace F := F.trans ((fr_X12_floor (((4 * (Int32.toInt64 (rd S 59 v3))) * (Int32.toInt64 (v1 - (rd S 57 v3)))) * (Int32.toInt64 ((rd S 58 v3) - v1))) (y1 * y1) _ e_).mono (w1 := W_X12_time) rfl rfl rfl rfl)
        obtain ⟨x4, _, h⟩ := vlet_ex h
        exact F.trans (fr_X12_time_b89 v1 x4 v3 hrec4 S2 h)
theorem fr_X12_time_l4 (v1 : Int32) : ∀ (n : Nat) (s : Int32 × Int32 × St) (r : Int32 × St), f_X12_time_l4 v1 n s = some r → Fr W_X12_time (s.2.2) r.2 :=
  loop_sound (fun rec4 hrec4 s r h => fr_X12_time_b4 v1 s.1 s.2.1 hrec4 s.2.2 h)
theorem fr_X12_time_b0 (a1 : Int32) (S : St) {r0 : Int32 × St} (h : f_X12_time_b0 a1 S = some r0) : Fr W_X12_time S r0.2 := by
  have F : Fr W_X12_time S S := Fr.rf
  unfold f_X12_time_b0 at h
  exact F.trans (fr_X12_time_l4 a1 _ (0, 0, S) _ h)
theorem fr_X12_time (a1 : Int32) (S : St) {r0 : Int32 × St} (h : f_X12_time a1 S = some r0) : Fr W_X12_time S r0.2 := by
  have F : Fr W_X12_time S S := Fr.rf
  unfold f_X12_time at h
  exact F.trans (fr_X12_time_b0 a1 S h)
def W_X12_timeOf : List Nat × List Nat × List Nat × Bool := ([], [], [], false)
theorem fr_X12_timeOf_b23 (w0 : Int32) (S : St) {r0 : Int32 × St} (h : f_X12_timeOf_b23 w0 S = some r0) : Fr W_X12_timeOf S r0.2 := by
  have F : Fr W_X12_timeOf S S := Fr.rf
  unfold f_X12_timeOf_b23 at h
  exact fr_end h F
theorem fr_X12_timeOf_b0 (a1 : Int32) (S : St) {r0 : Int32 × St} (h : f_X12_timeOf_b0 a1 S = some r0) : Fr W_X12_timeOf S r0.2 := by
  have F : Fr W_X12_timeOf S S := Fr.rf
  unfold f_X12_timeOf_b0 at h
  obtain ⟨⟨r2, S1⟩, e_, h⟩ := bnd_some h
  replace F := F.trans ((fr_X12_in (Int32.toInt64 a1) 0 20000 _ e_).mono (w1 := W_X12_timeOf) rfl rfl rfl rfl)
  rcases ite_or h with h | h
  · exact F.trans (fr_X12_timeOf_b23 (-1002) S1 h)
  · obtain ⟨⟨r4, S3⟩, e_, h⟩ := bnd_some h
    replace F := F.trans ((fr_X12_time a1 _ e_).mono (w1 := W_X12_timeOf) rfl rfl rfl rfl)
    exact F.trans (fr_X12_timeOf_b23 r4 S3 h)
theorem fr_X12_timeOf (a1 : Int32) (S : St) {r0 : Int32 × St} (h : f_X12_timeOf a1 S = some r0) : Fr W_X12_timeOf S r0.2 := by
  have F : Fr W_X12_timeOf S S := Fr.rf
  unfold f_X12_timeOf at h
  exact F.trans (fr_X12_timeOf_b0 a1 S h)
def W_X10_append : List Nat × List Nat × List Nat × Bool := ([5], [24], [], false)
theorem fr_X10_append_b21 {rec21 : Int32 × St → Option (Int32 × St)} (v2 : Int64) (v4 : Int32) (hrec21 : ∀ (s : Int32 × St) (r : Int32 × St), rec21 s = some r → Fr W_X10_append (s.2) r.2) (S : St) {r0 : Int32 × St} (h : f_X10_append_b21 rec21 v2 v4 S = some r0) : Fr W_X10_append S r0.2 := by
  have F : Fr W_X10_append S S := Fr.rf
  unfold f_X10_append_b21 at h
  rcases ite_or h with h | h
  · exact fr_end h F
  · obtain ⟨S2, e_, h⟩ := vlet_ex (chk_some h).2
    replace F := F.trans (Fr.sto (w := W_X10_append) (k := 24) e_ rfl)
    obtain ⟨S3, e_, h⟩ := vlet_ex h
    replace F := F.trans (Fr.pI (w := W_X10_append) (k := 5) e_ rfl)
    exact F.trans (hrec21 (v4 + (-1), S3) _ h)
theorem fr_X10_append_l21 (v2 : Int64) : ∀ (n : Nat) (s : Int32 × St) (r : Int32 × St), f_X10_append_l21 v2 n s = some r → Fr W_X10_append (s.2) r.2 :=
  loop_sound (fun rec21 hrec21 s r h => fr_X10_append_b21 v2 s.1 hrec21 s.2 h)
theorem fr_X10_append_b0 (a1 : Int32) (a2 : Int64) (S : St) {r0 : Int32 × St} (h : f_X10_append_b0 a1 a2 S = some r0) : Fr W_X10_append S r0.2 := by
  have F : Fr W_X10_append S S := Fr.rf
  unfold f_X10_append_b0 at h
  rcases ite_or h with h | h
  · obtain ⟨x1, _, h⟩ := vlet_ex h
    exact F.trans (fr_X10_append_l21 a2 _ (x1, S) _ h)
  · exact fr_end h F
theorem fr_X10_append (a1 : Int32) (a2 : Int64) (S : St) {r0 : Int32 × St} (h : f_X10_append a1 a2 S = some r0) : Fr W_X10_append S r0.2 := by
  have F : Fr W_X10_append S S := Fr.rf
  unfold f_X10_append at h
  exact F.trans (fr_X10_append_b0 a1 a2 S h)
def W_X11_feed : List Nat × List Nat × List Nat × Bool := ([5], [24], [], false)
theorem fr_X11_feed_b25 (w0 : Int32) (S : St) {r0 : Int32 × St} (h : f_X11_feed_b25 w0 S = some r0) : Fr W_X11_feed S r0.2 := by
  have F : Fr W_X11_feed S S := Fr.rf
  unfold f_X11_feed_b25 at h
  exact fr_end h F
theorem fr_X11_feed_b0 (a1 : Int32) (a2 : Int64) (S : St) {r0 : Int32 × St} (h : f_X11_feed_b0 a1 a2 S = some r0) : Fr W_X11_feed S r0.2 := by
  have F : Fr W_X11_feed S S := Fr.rf
  unfold f_X11_feed_b0 at h
  obtain ⟨⟨r2, S1⟩, e_, h⟩ := bnd_some h
  replace F := F.trans ((fr_X11_isWithin a1 1 8 _ e_).mono (w1 := W_X11_feed) rfl rfl rfl rfl)
  rcases ite_or h with h | h
  · exact F.trans (fr_X11_feed_b25 (-1002) S1 h)
  · obtain ⟨⟨r4, S3⟩, e_, h⟩ := bnd_some h
    replace F := F.trans ((fr_X10_append a1 a2 _ e_).mono (w1 := W_X11_feed) rfl rfl rfl rfl)
    exact F.trans (fr_X11_feed_b25 r4 S3 h)
theorem fr_X11_feed (a1 : Int32) (a2 : Int64) (S : St) {r0 : Int32 × St} (h : f_X11_feed a1 a2 S = some r0) : Fr W_X11_feed S r0.2 := by
  have F : Fr W_X11_feed S S := Fr.rf
  unfold f_X11_feed at h
  exact F.trans (fr_X11_feed_b0 a1 a2 S h)
def W_X12_feed : List Nat × List Nat × List Nat × Bool := ([29], [64], [], false)
theorem fr_X12_feed_b37 {rec37 : Int32 × St → Option (Int32 × St)} (v2 : Int64) (v4 : Int32) (hrec37 : ∀ (s : Int32 × St) (r : Int32 × St), rec37 s = some r → Fr W_X12_feed (s.2) r.2) (S : St) {r0 : Int32 × St} (h : f_X12_feed_b37 rec37 v2 v4 S = some r0) : Fr W_X12_feed S r0.2 := by
  have F : Fr W_X12_feed S S := Fr.rf
  unfold f_X12_feed_b37 at h
  rcases ite_or h with h | h
  · exact fr_end h F
  · obtain ⟨S4, e_, h⟩ := vlet_ex (chk_some h).2
    replace F := F.trans (Fr.sto (w := W_X12_feed) (k := 64) e_ rfl)
    obtain ⟨S5, e_, h⟩ := vlet_ex h
    replace F := F.trans (Fr.pI (w := W_X12_feed) (k := 29) e_ rfl)
    exact F.trans (hrec37 (v4 + (-1), S5) _ h)
theorem fr_X12_feed_l37 (v2 : Int64) : ∀ (n : Nat) (s : Int32 × St) (r : Int32 × St), f_X12_feed_l37 v2 n s = some r → Fr W_X12_feed (s.2) r.2 :=
  loop_sound (fun rec37 hrec37 s r h => fr_X12_feed_b37 v2 s.1 hrec37 s.2 h)
theorem fr_X12_feed_b0 (a1 : Int32) (a2 : Int64) (S : St) {r0 : Int32 × St} (h : f_X12_feed_b0 a1 a2 S = some r0) : Fr W_X12_feed S r0.2 := by
  have F : Fr W_X12_feed S S := Fr.rf
  unfold f_X12_feed_b0 at h
  obtain ⟨⟨r2, S1⟩, e_, h⟩ := bnd_some h
  replace F := F.trans ((fr_X12_in (Int32.toInt64 a1) 1 8 _ e_).mono (w1 := W_X12_feed) rfl rfl rfl rfl)
  rcases ite_or h with h | h
  · exact fr_end h F
  · rcases ite_or h with h | h
    · obtain ⟨x3, _, h⟩ := vlet_ex h
      exact F.trans (fr_X12_feed_l37 a2 _ (x3, S1) _ h)
    · exact fr_end h F
theorem fr_X12_feed (a1 : Int32) (a2 : Int64) (S : St) {r0 : Int32 × St} (h : f_X12_feed a1 a2 S = some r0) : Fr W_X12_feed S r0.2 := by
  have F : Fr W_X12_feed S S := Fr.rf
  unfold f_X12_feed at h
  exact F.trans (fr_X12_feed_b0 a1 a2 S h)
def W_X8_dropStaged : List Nat × List Nat × List Nat × Bool := ([7], [], [], false)
theorem fr_X8_dropStaged_b0 (S : St) {r0 : Unit × St} (h : f_X8_dropStaged_b0 S = some r0) : Fr W_X8_dropStaged S r0.2 := by
  have F : Fr W_X8_dropStaged S S := Fr.rf
  unfold f_X8_dropStaged_b0 at h
  obtain ⟨S1, e_, h⟩ := vlet_ex h
  replace F := F.trans (Fr.pI (w := W_X8_dropStaged) (k := 7) e_ rfl)
  exact fr_end h F
theorem fr_X8_dropStaged (S : St) {r0 : Unit × St} (h : f_X8_dropStaged S = some r0) : Fr W_X8_dropStaged S r0.2 := by
  have F : Fr W_X8_dropStaged S S := Fr.rf
  unfold f_X8_dropStaged at h
  exact F.trans (fr_X8_dropStaged_b0  S h)
def W_X10_at : List Nat × List Nat × List Nat × Bool := ([], [], [], false)
theorem fr_X10_at_b27 (w0 : Int32) (S : St) {r0 : Int32 × St} (h : f_X10_at_b27 w0 S = some r0) : Fr W_X10_at S r0.2 := by
  have F : Fr W_X10_at S S := Fr.rf
  unfold f_X10_at_b27 at h
  exact fr_end h F
theorem fr_X10_at_b26 (S : St) {r0 : Int32 × St} (h : f_X10_at_b26 S = some r0) : Fr W_X10_at S r0.2 := by
  have F : Fr W_X10_at S S := Fr.rf
  unfold f_X10_at_b26 at h
  exact F.trans (fr_X10_at_b27 (-1) S h)
theorem fr_X10_at_b0 (a1 : Int32) (S : St) {r0 : Int32 × St} (h : f_X10_at_b0 a1 S = some r0) : Fr W_X10_at S r0.2 := by
  have F : Fr W_X10_at S S := Fr.rf
  unfold f_X10_at_b0 at h
  rcases ite_or h with h | h
  · exact F.trans (fr_X10_at_b26  S h)
  · rcases ite_or h with h | h
    · exact F.trans (fr_X10_at_b26  S h)
    · replace h := (chk_some h).2
      exact F.trans (fr_X10_at_b27 ((rd S 24 a1) &&& 255) S h)
theorem fr_X10_at (a1 : Int32) (S : St) {r0 : Int32 × St} (h : f_X10_at a1 S = some r0) : Fr W_X10_at S r0.2 := by
  have F : Fr W_X10_at S S := Fr.rf
  unfold f_X10_at at h
  exact F.trans (fr_X10_at_b0 a1 S h)
def W_X7_kindAt : List Nat × List Nat × List Nat × Bool := ([], [], [], false)
theorem fr_X7_kindAt_b25 (S : St) {r0 : Int32 × St} (h : f_X7_kindAt_b25 S = some r0) : Fr W_X7_kindAt S r0.2 := by
  have F : Fr W_X7_kindAt S S := Fr.rf
  unfold f_X7_kindAt_b25 at h
  exact fr_end h F
theorem fr_X7_kindAt_b56 (w0 : Int32) (S : St) {r0 : Int32 × St} (h : f_X7_kindAt_b56 w0 S = some r0) : Fr W_X7_kindAt S r0.2 := by
  have F : Fr W_X7_kindAt S S := Fr.rf
  unfold f_X7_kindAt_b56 at h
  exact fr_end h F
theorem fr_X7_kindAt_b0 (a2 : Int32) (S : St) {r0 : Int32 × St} (h : f_X7_kindAt_b0 a2 S = some r0) : Fr W_X7_kindAt S r0.2 := by
  have F : Fr W_X7_kindAt S S := Fr.rf
  unfold f_X7_kindAt_b0 at h
  obtain ⟨⟨r2, S1⟩, e_, h⟩ := bnd_some h
  replace F := F.trans ((fr_X10_at a2 _ e_).mono (w1 := W_X7_kindAt) rfl rfl rfl rfl)
  rcases ite_or h with h | h
  · exact fr_end h F
  · rcases ite_or h with h | h
    · exact F.trans (fr_X7_kindAt_b25  S1 h)
    · rcases ite_or h with h | h
      · exact F.trans (fr_X7_kindAt_b25  S1 h)
      · obtain ⟨⟨r4, S3⟩, e_, h⟩ := bnd_some h
        replace F := F.trans ((fr_X11_isWithin r2 97 122 _ e_).mono (w1 := W_X7_kindAt) rfl rfl rfl rfl)
        rcases ite_or h with h | h
        · obtain ⟨⟨r6, S5⟩, e_, h⟩ := bnd_some h
          replace F := F.trans ((fr_X11_isWithin r2 48 57 _ e_).mono (w1 := W_X7_kindAt) rfl rfl rfl rfl)
          rcases ite_or h with h | h
          · exact F.trans (fr_X7_kindAt_b56 4 S5 h)
          · exact F.trans (fr_X7_kindAt_b56 3 S5 h)
        · exact fr_end h F
theorem fr_X7_kindAt (a2 : Int32) (S : St) {r0 : Int32 × St} (h : f_X7_kindAt a2 S = some r0) : Fr W_X7_kindAt S r0.2 := by
  have F : Fr W_X7_kindAt S S := Fr.rf
  unfold f_X7_kindAt at h
  exact F.trans (fr_X7_kindAt_b0 a2 S h)
def W_X7_takePiece : List Nat × List Nat × List Nat × Bool := ([8, 9, 10], [], [], false)
theorem fr_X7_takePiece_b136 (S : St) {r0 : Unit × St} (h : f_X7_takePiece_b136 S = some r0) : Fr W_X7_takePiece S r0.2 := by
  have F : Fr W_X7_takePiece S S := Fr.rf
  unfold f_X7_takePiece_b136 at h
  exact fr_end h F
theorem fr_X7_takePiece_b97 {rec97 : St → Option (Unit × St)} (hrec97 : ∀ (s : St) (r : Unit × St), rec97 s = some r → Fr W_X7_takePiece s r.2) (S : St) {r0 : Unit × St} (h : f_X7_takePiece_b97 rec97 S = some r0) : Fr W_X7_takePiece S r0.2 := by
  have F : Fr W_X7_takePiece S S := Fr.rf
  unfold f_X7_takePiece_b97 at h
  rcases ite_or h with h | h
  · exact F.trans (fr_X7_takePiece_b136  S h)
  · obtain ⟨⟨r7, S6⟩, e_, h⟩ := bnd_some h
    replace F := F.trans ((fr_X7_kindAt (gI S 9) _ e_).mono (w1 := W_X7_takePiece) rfl rfl rfl rfl)
    rcases ite_or h with h | h
    · obtain ⟨S8, e_, h⟩ := vlet_ex h
      replace F := F.trans (Fr.pI (w := W_X7_takePiece) (k := 9) e_ rfl)
      exact F.trans (hrec97 S8 _ h)
    · exact F.trans (fr_X7_takePiece_b136  S6 h)
theorem fr_X7_takePiece_l97 : ∀ (n : Nat) (s : St) (r : Unit × St), f_X7_takePiece_l97 n s = some r → Fr W_X7_takePiece s r.2 :=
  loop_sound (fun rec97 hrec97 s r h => fr_X7_takePiece_b97  hrec97 s h)
theorem fr_X7_takePiece_b77 (w1 : Int32) (S : St) {r0 : Unit × St} (h : f_X7_takePiece_b77 w1 S = some r0) : Fr W_X7_takePiece S r0.2 := by
  have F : Fr W_X7_takePiece S S := Fr.rf
  unfold f_X7_takePiece_b77 at h
  obtain ⟨S5, e_, h⟩ := vlet_ex h
  replace F := F.trans (Fr.pI (w := W_X7_takePiece) (k := 9) e_ rfl)
  rcases ite_or h with h | h
  · exact F.trans (fr_X7_takePiece_l97  _ S5 _ h)
  · rcases ite_or h with h | h
    · exact F.trans (fr_X7_takePiece_l97  _ S5 _ h)
    · exact fr_end h F
theorem fr_X7_takePiece_b44 (S : St) {r0 : Unit × St} (h : f_X7_takePiece_b44 S = some r0) : Fr W_X7_takePiece S r0.2 := by
  have F : Fr W_X7_takePiece S S := Fr.rf
  unfold f_X7_takePiece_b44 at h
  obtain ⟨⟨r3, S2⟩, e_, h⟩ := bnd_some h
  replace F := F.trans ((fr_X7_kindAt (gI S 8) _ e_).mono (w1 := W_X7_takePiece) rfl rfl rfl rfl)
  obtain ⟨S4, e_, h⟩ := vlet_ex h
  replace F := F.trans (Fr.pI (w := W_X7_takePiece) (k := 10) e_ rfl)
  rcases ite_or h with h | h
  · exact F.trans (fr_X7_takePiece_b77 (gI S4 8) S4 h)
  · exact F.trans (fr_X7_takePiece_b77 ((gI S4 8) + 1) S4 h)
theorem fr_X7_takePiece_b8 {rec8 : St → Option (Unit × St)} (hrec8 : ∀ (s : St) (r : Unit × St), rec8 s = some r → Fr W_X7_takePiece s r.2) (S : St) {r0 : Unit × St} (h : f_X7_takePiece_b8 rec8 S = some r0) : Fr W_X7_takePiece S r0.2 := by
  have F : Fr W_X7_takePiece S S := Fr.rf
  unfold f_X7_takePiece_b8 at h
  rcases ite_or h with h | h
  · exact F.trans (fr_X7_takePiece_b44  S h)
  · obtain ⟨⟨r10, S9⟩, e_, h⟩ := bnd_some h
    replace F := F.trans ((fr_X7_kindAt (gI S 8) _ e_).mono (w1 := W_X7_takePiece) rfl rfl rfl rfl)
    rcases ite_or h with h | h
    · obtain ⟨S11, e_, h⟩ := vlet_ex h
      replace F := F.trans (Fr.pI (w := W_X7_takePiece) (k := 8) e_ rfl)
      exact F.trans (hrec8 S11 _ h)
    · exact F.trans (fr_X7_takePiece_b44  S9 h)
theorem fr_X7_takePiece_l8 : ∀ (n : Nat) (s : St) (r : Unit × St), f_X7_takePiece_l8 n s = some r → Fr W_X7_takePiece s r.2 :=
  loop_sound (fun rec8 hrec8 s r h => fr_X7_takePiece_b8  hrec8 s h)
theorem fr_X7_takePiece_b0 (S : St) {r0 : Unit × St} (h : f_X7_takePiece_b0 S = some r0) : Fr W_X7_takePiece S r0.2 := by
  have F : Fr W_X7_takePiece S S := Fr.rf
  unfold f_X7_takePiece_b0 at h
  obtain ⟨S1, e_, h⟩ := vlet_ex h
  replace F := F.trans (Fr.pI (w := W_X7_takePiece) (k := 8) e_ rfl)
  exact F.trans (fr_X7_takePiece_l8  _ S1 _ h)
theorem fr_X7_takePiece (S : St) {r0 : Unit × St} (h : f_X7_takePiece S = some r0) : Fr W_X7_takePiece S r0.2 := by
  have F : Fr W_X7_takePiece S S := Fr.rf
  unfold f_X7_takePiece at h
  exact F.trans (fr_X7_takePiece_b0  S h)
def W_X8_areFull : List Nat × List Nat × List Nat × Bool := ([], [], [], false)
theorem fr_X8_areFull_b14 (w0 : Int32) (S : St) {r0 : Int32 × St} (h : f_X8_areFull_b14 w0 S = some r0) : Fr W_X8_areFull S r0.2 := by
  have F : Fr W_X8_areFull S S := Fr.rf
  unfold f_X8_areFull_b14 at h
  exact fr_end (chk_some h).2 F
theorem fr_X8_areFull_b0 (S : St) {r0 : Int32 × St} (h : f_X8_areFull_b0 S = some r0) : Fr W_X8_areFull S r0.2 := by
  have F : Fr W_X8_areFull S S := Fr.rf
  unfold f_X8_areFull_b0 at h
  rcases ite_or h with h | h
  · exact F.trans (fr_X8_areFull_b14 0 S h)
  · exact F.trans (fr_X8_areFull_b14 1 S h)
theorem fr_X8_areFull (S : St) {r0 : Int32 × St} (h : f_X8_areFull S = some r0) : Fr W_X8_areFull S r0.2 := by
  have F : Fr W_X8_areFull S S := Fr.rf
  unfold f_X8_areFull at h
  exact F.trans (fr_X8_areFull_b0  S h)
def W_X7_isWord : List Nat × List Nat × List Nat × Bool := ([], [], [], false)
theorem fr_X7_isWord_b24 (S : St) {r0 : Int32 × St} (h : f_X7_isWord_b24 S = some r0) : Fr W_X7_isWord S r0.2 := by
  have F : Fr W_X7_isWord S S := Fr.rf
  unfold f_X7_isWord_b24 at h
  exact fr_end h F
theorem fr_X7_isWord_b28 {rec28 : Int32 × St → Option (Int32 × St)} (v2 : Nat) (v3 : Int32) (hrec28 : ∀ (s : Int32 × St) (r : Int32 × St), rec28 s = some r → Fr W_X7_isWord (s.2) r.2) (S : St) {r0 : Int32 × St} (h : f_X7_isWord_b28 rec28 v2 v3 S = some r0) : Fr W_X7_isWord S r0.2 := by
  have F : Fr W_X7_isWord S S := Fr.rf
  unfold f_X7_isWord_b28 at h
  replace h := (chk_some h).2
  obtain ⟨⟨r5, S4⟩, e_, h⟩ := bnd_some h
  replace F := F.trans ((fr_J0_length_8abf5 v2 _ e_).mono (w1 := W_X7_isWord) rfl rfl rfl rfl)
  rcases ite_or h with h | h
  · exact fr_end h F
  · obtain ⟨⟨r8, S7⟩, e_, h⟩ := bnd_some h
    replace F := F.trans ((fr_X10_at ((gI S4 8) + v3) _ e_).mono (w1 := W_X7_isWord) rfl rfl rfl rfl)
    replace h := (chk_some h).2
    obtain ⟨⟨r10, S9⟩, e_, h⟩ := bnd_some h
    replace F := F.trans ((fr_J0_charAt_5068e v2 v3 _ e_).mono (w1 := W_X7_isWord) rfl rfl rfl rfl)
    rcases ite_or h with h | h
    · exact F.trans (hrec28 (v3 + 1, S9) _ h)
    · exact fr_end h F
theorem fr_X7_isWord_l28 (v2 : Nat) : ∀ (n : Nat) (s : Int32 × St) (r : Int32 × St), f_X7_isWord_l28 v2 n s = some r → Fr W_X7_isWord (s.2) r.2 :=
  loop_sound (fun rec28 hrec28 s r h => fr_X7_isWord_b28 v2 s.1 hrec28 s.2 h)
theorem fr_X7_isWord_b0 (a2 : Nat) (S : St) {r0 : Int32 × St} (h : f_X7_isWord_b0 a2 S = some r0) : Fr W_X7_isWord S r0.2 := by
  have F : Fr W_X7_isWord S S := Fr.rf
  unfold f_X7_isWord_b0 at h
  rcases ite_or h with h | h
  · replace h := (chk_some h).2
    obtain ⟨⟨r2, S1⟩, e_, h⟩ := bnd_some h
    replace F := F.trans ((fr_J0_length_8abf5 a2 _ e_).mono (w1 := W_X7_isWord) rfl rfl rfl rfl)
    rcases ite_or h with h | h
    · exact F.trans (fr_X7_isWord_l28 a2 _ (0, S1) _ h)
    · exact F.trans (fr_X7_isWord_b24  S1 h)
  · exact F.trans (fr_X7_isWord_b24  S h)
theorem fr_X7_isWord (a2 : Nat) (S : St) {r0 : Int32 × St} (h : f_X7_isWord a2 S = some r0) : Fr W_X7_isWord S r0.2 := by
  have F : Fr W_X7_isWord S S := Fr.rf
  unfold f_X7_isWord at h
  exact F.trans (fr_X7_isWord_b0 a2 S h)
def W_X3_wordOf : List Nat × List Nat × List Nat × Bool := ([], [], [], false)
theorem fr_X3_wordOf_b0 (a1 : Int32) (S : St) {r0 : Nat × St} (h : f_X3_wordOf_b0 a1 S = some r0) : Fr W_X3_wordOf S r0.2 := by
  have F : Fr W_X3_wordOf S S := Fr.rf
  unfold f_X3_wordOf_b0 at h
  rcases ite_or h with h | h
  · exact fr_end h F
  rcases ite_or h with h | h
  · exact fr_end h F
  rcases ite_or h with h | h
  · exact fr_end h F
  rcases ite_or h with h | h
  · exact fr_end h F
  rcases ite_or h with h | h
  · exact fr_end h F
  rcases ite_or h with h | h
  · exact fr_end h F
  rcases ite_or h with h | h
  · exact fr_end h F
  rcases ite_or h with h | h
  · exact fr_end h F
  rcases ite_or h with h | h
  · exact fr_end h F
  rcases ite_or h with h | h
  · exact fr_end h F
  rcases ite_or h with h | h
  · exact fr_end h F
  rcases ite_or h with h | h
  · exact fr_end h F
  rcases ite_or h with h | h
  · exact fr_end h F
  exact fr_end h F
theorem fr_X3_wordOf (a1 : Int32) (S : St) {r0 : Nat × St} (h : f_X3_wordOf a1 S = some r0) : Fr W_X3_wordOf S r0.2 := by
  have F : Fr W_X3_wordOf S S := Fr.rf
  unfold f_X3_wordOf at h
  exact F.trans (fr_X3_wordOf_b0 a1 S h)
def W_X7_nameThere : List Nat × List Nat × List Nat × Bool := ([], [], [], false)
theorem fr_X7_nameThere_b2 {rec2 : Int32 × St → Option (Int32 × St)} (v2 : Int32) (hrec2 : ∀ (s : Int32 × St) (r : Int32 × St), rec2 s = some r → Fr W_X7_nameThere (s.2) r.2) (S : St) {r0 : Int32 × St} (h : f_X7_nameThere_b2 rec2 v2 S = some r0) : Fr W_X7_nameThere S r0.2 := by
  have F : Fr W_X7_nameThere S S := Fr.rf
  unfold f_X7_nameThere_b2 at h
  rcases ite_or h with h | h
  · exact fr_end h F
  · obtain ⟨⟨r2, S1⟩, e_, h⟩ := bnd_some h
    replace F := F.trans ((fr_X3_wordOf v2 _ e_).mono (w1 := W_X7_nameThere) rfl rfl rfl rfl)
    obtain ⟨⟨r4, S3⟩, e_, h⟩ := bnd_some h
    replace F := F.trans ((fr_X7_isWord r2 _ e_).mono (w1 := W_X7_nameThere) rfl rfl rfl rfl)
    rcases ite_or h with h | h
    · exact F.trans (hrec2 (v2 + 1, S3) _ h)
    · exact fr_end h F
theorem fr_X7_nameThere_l2 : ∀ (n : Nat) (s : Int32 × St) (r : Int32 × St), f_X7_nameThere_l2 n s = some r → Fr W_X7_nameThere (s.2) r.2 :=
  loop_sound (fun rec2 hrec2 s r h => fr_X7_nameThere_b2 s.1 hrec2 s.2 h)
theorem fr_X7_nameThere_b0 (S : St) {r0 : Int32 × St} (h : f_X7_nameThere_b0 S = some r0) : Fr W_X7_nameThere S r0.2 := by
  have F : Fr W_X7_nameThere S S := Fr.rf
  unfold f_X7_nameThere_b0 at h
  exact F.trans (fr_X7_nameThere_l2  _ (0, S) _ h)
theorem fr_X7_nameThere (S : St) {r0 : Int32 × St} (h : f_X7_nameThere S = some r0) : Fr W_X7_nameThere S r0.2 := by
  have F : Fr W_X7_nameThere S S := Fr.rf
  unfold f_X7_nameThere at h
  exact F.trans (fr_X7_nameThere_b0  S h)
def W_X7_takeNumber : List Nat × List Nat × List Nat × Bool := ([8, 9, 10, 11], [], [], false)
theorem fr_X7_takeNumber_b21 {rec21 : Int32 × St → Option (Int32 × St)} (v2 : Int32) (v3 : Int32) (v4 : Int32) (hrec21 : ∀ (s : Int32 × St) (r : Int32 × St), rec21 s = some r → Fr W_X7_takeNumber (s.2) r.2) (S : St) {r0 : Int32 × St} (h : f_X7_takeNumber_b21 rec21 v2 v3 v4 S = some r0) : Fr W_X7_takeNumber S r0.2 := by
  have F : Fr W_X7_takeNumber S S := Fr.rf
  unfold f_X7_takeNumber_b21 at h
  rcases ite_or h with h | h
  · obtain ⟨⟨r4, S3⟩, e_, h⟩ := bnd_some h
    replace F := F.trans ((fr_X11_isWithin (gI S 11) v2 v3 _ e_).mono (w1 := W_X7_takeNumber) rfl rfl rfl rfl)
    rcases ite_or h with h | h
    · exact fr_end h F
    · obtain ⟨⟨_u5, S5⟩, e_, h⟩ := bnd_some h
      replace F := F.trans ((fr_X7_takePiece _ e_).mono (w1 := W_X7_takeNumber) rfl rfl rfl rfl)
      exact fr_end h F
  · obtain ⟨⟨r7, S6⟩, e_, h⟩ := bnd_some h
    replace F := F.trans ((fr_X10_at v4 _ e_).mono (w1 := W_X7_takeNumber) rfl rfl rfl rfl)
    obtain ⟨S8, e_, h⟩ := vlet_ex h
    replace F := F.trans (Fr.pI (w := W_X7_takeNumber) (k := 11) e_ rfl)
    exact F.trans (hrec21 (v4 + 1, S8) _ h)
theorem fr_X7_takeNumber_l21 (v2 : Int32) (v3 : Int32) : ∀ (n : Nat) (s : Int32 × St) (r : Int32 × St), f_X7_takeNumber_l21 v2 v3 n s = some r → Fr W_X7_takeNumber (s.2) r.2 :=
  loop_sound (fun rec21 hrec21 s r h => fr_X7_takeNumber_b21 v2 v3 s.1 hrec21 s.2 h)
theorem fr_X7_takeNumber_b0 (a2 : Int32) (a3 : Int32) (S : St) {r0 : Int32 × St} (h : f_X7_takeNumber_b0 a2 a3 S = some r0) : Fr W_X7_takeNumber S r0.2 := by
  have F : Fr W_X7_takeNumber S S := Fr.rf
  unfold f_X7_takeNumber_b0 at h
  rcases ite_or h with h | h
  · obtain ⟨S1, e_, h⟩ := vlet_ex h
    replace F := F.trans (Fr.pI (w := W_X7_takeNumber) (k := 11) e_ rfl)
    obtain ⟨x2, _, h⟩ := vlet_ex h
    exact F.trans (fr_X7_takeNumber_l21 a2 a3 _ (x2, S1) _ h)
  · exact fr_end h F
theorem fr_X7_takeNumber (a2 : Int32) (a3 : Int32) (S : St) {r0 : Int32 × St} (h : f_X7_takeNumber a2 a3 S = some r0) : Fr W_X7_takeNumber S r0.2 := by
  have F : Fr W_X7_takeNumber S S := Fr.rf
  unfold f_X7_takeNumber at h
  exact F.trans (fr_X7_takeNumber_b0 a2 a3 S h)
def W_X8_stage : List Nat × List Nat × List Nat × Bool := ([7], [26, 27, 28, 29], [], false)
theorem fr_X8_stage_b0 (a1 : Int32) (a2 : Int32) (a3 : Int32) (a4 : Int32) (S : St) {r0 : Unit × St} (h : f_X8_stage_b0 a1 a2 a3 a4 S = some r0) : Fr W_X8_stage S r0.2 := by
  have F : Fr W_X8_stage S S := Fr.rf
  unfold f_X8_stage_b0 at h
  obtain ⟨⟨r2, S1⟩, e_, h⟩ := bnd_some h
  replace F := F.trans ((fr_X8_areFull _ e_).mono (w1 := W_X8_stage) rfl rfl rfl rfl)
  rcases ite_or h with h | h
  · obtain ⟨S3, e_, h⟩ := vlet_ex (chk_some h).2
    replace F := F.trans (Fr.sto (w := W_X8_stage) (k := 26) e_ rfl)
    obtain ⟨S4, e_, h⟩ := vlet_ex (chk_some h).2
    replace F := F.trans (Fr.sto (w := W_X8_stage) (k := 27) e_ rfl)
    obtain ⟨S5, e_, h⟩ := vlet_ex (chk_some h).2
    replace F := F.trans (Fr.sto (w := W_X8_stage) (k := 28) e_ rfl)
    obtain ⟨S6, e_, h⟩ := vlet_ex (chk_some h).2
    replace F := F.trans (Fr.sto (w := W_X8_stage) (k := 29) e_ rfl)
    obtain ⟨S7, e_, h⟩ := vlet_ex h
    replace F := F.trans (Fr.pI (w := W_X8_stage) (k := 7) e_ rfl)
    exact fr_end h F
  · exact fr_end h F
theorem fr_X8_stage (a1 : Int32) (a2 : Int32) (a3 : Int32) (a4 : Int32) (S : St) {r0 : Unit × St} (h : f_X8_stage a1 a2 a3 a4 S = some r0) : Fr W_X8_stage S r0.2 := by
  have F : Fr W_X8_stage S S := Fr.rf
  unfold f_X8_stage at h
  exact F.trans (fr_X8_stage_b0 a1 a2 a3 a4 S h)
def W_X7_takeRule : List Nat × List Nat × List Nat × Bool := ([7, 8, 9, 10, 11], [26, 27, 28, 29], [], false)
theorem fr_X7_takeRule_b128 (v3 : Int32) (v4 : Int32) (v5 : Int32) (v6 : Int32) (S : St) {r0 : Int32 × St} (h : f_X7_takeRule_b128 v3 v4 v5 v6 S = some r0) : Fr W_X7_takeRule S r0.2 := by
  have F : Fr W_X7_takeRule S S := Fr.rf
  unfold f_X7_takeRule_b128 at h
  obtain ⟨⟨r14, S13⟩, e_, h⟩ := bnd_some h
  replace F := F.trans ((fr_X10_at (gI S 8) _ e_).mono (w1 := W_X7_takeRule) rfl rfl rfl rfl)
  rcases ite_or h with h | h
  · obtain ⟨⟨_u15, S15⟩, e_, h⟩ := bnd_some h
    replace F := F.trans ((fr_X7_takePiece _ e_).mono (w1 := W_X7_takeRule) rfl rfl rfl rfl)
    obtain ⟨⟨_u16, S16⟩, e_, h⟩ := bnd_some h
    replace F := F.trans ((fr_X8_stage v3 v5 v6 v4 _ e_).mono (w1 := W_X7_takeRule) rfl rfl rfl rfl)
    exact fr_end h F
  · exact fr_end h F
theorem fr_X7_takeRule_b46 (v3 : Int32) (v4 : Int32) (S : St) {r0 : Int32 × St} (h : f_X7_takeRule_b46 v3 v4 S = some r0) : Fr W_X7_takeRule S r0.2 := by
  have F : Fr W_X7_takeRule S S := Fr.rf
  unfold f_X7_takeRule_b46 at h
  obtain ⟨⟨r6, S5⟩, e_, h⟩ := bnd_some h
  replace F := F.trans ((fr_X7_nameThere _ e_).mono (w1 := W_X7_takeRule) rfl rfl rfl rfl)
  rcases ite_or h with h | h
  · exact fr_end h F
  · obtain ⟨⟨_u7, S7⟩, e_, h⟩ := bnd_some h
    replace F := F.trans ((fr_X7_takePiece _ e_).mono (w1 := W_X7_takeRule) rfl rfl rfl rfl)
    replace h := (chk_some h).2
    replace h := (chk_some h).2
    obtain ⟨⟨r9, S8⟩, e_, h⟩ := bnd_some h
    replace F := F.trans ((fr_X7_takeNumber (tbr 1 r6) (tbr 2 r6) _ e_).mono (w1 := W_X7_takeRule) rfl rfl rfl rfl)
    rcases ite_or h with h | h
    · exact fr_end h F
    · obtain ⟨x10, _, h⟩ := vlet_ex h
      obtain ⟨⟨r12, S11⟩, e_, h⟩ := bnd_some h
      replace F := F.trans ((fr_X7_isWord 15 _ e_).mono (w1 := W_X7_takeRule) rfl rfl rfl rfl)
      rcases ite_or h with h | h
      · exact F.trans (fr_X7_takeRule_b128 v3 v4 r6 x10 S11 h)
      · obtain ⟨⟨_u17, S17⟩, e_, h⟩ := bnd_some h
        replace F := F.trans ((fr_X7_takePiece _ e_).mono (w1 := W_X7_takeRule) rfl rfl rfl rfl)
        obtain ⟨⟨r19, S18⟩, e_, h⟩ := bnd_some h
        replace F := F.trans ((fr_X7_takeNumber 0 9 _ e_).mono (w1 := W_X7_takeRule) rfl rfl rfl rfl)
        rcases ite_or h with h | h
        · exact fr_end h F
        · obtain ⟨x20, _, h⟩ := vlet_ex h
          exact F.trans (fr_X7_takeRule_b128 v3 x20 r6 x10 S18 h)
theorem fr_X7_takeRule_b0 (S : St) {r0 : Int32 × St} (h : f_X7_takeRule_b0 S = some r0) : Fr W_X7_takeRule S r0.2 := by
  have F : Fr W_X7_takeRule S S := Fr.rf
  unfold f_X7_takeRule_b0 at h
  obtain ⟨⟨r2, S1⟩, e_, h⟩ := bnd_some h
  replace F := F.trans ((fr_X8_areFull _ e_).mono (w1 := W_X7_takeRule) rfl rfl rfl rfl)
  rcases ite_or h with h | h
  · obtain ⟨⟨r4, S3⟩, e_, h⟩ := bnd_some h
    replace F := F.trans ((fr_X7_isWord 14 _ e_).mono (w1 := W_X7_takeRule) rfl rfl rfl rfl)
    rcases ite_or h with h | h
    · exact F.trans (fr_X7_takeRule_b46 (-1) 0 S3 h)
    · obtain ⟨⟨_u21, S21⟩, e_, h⟩ := bnd_some h
      replace F := F.trans ((fr_X7_takePiece _ e_).mono (w1 := W_X7_takeRule) rfl rfl rfl rfl)
      obtain ⟨⟨r23, S22⟩, e_, h⟩ := bnd_some h
      replace F := F.trans ((fr_X7_takeNumber 0 3 _ e_).mono (w1 := W_X7_takeRule) rfl rfl rfl rfl)
      rcases ite_or h with h | h
      · exact fr_end h F
      · obtain ⟨x24, _, h⟩ := vlet_ex h
        exact F.trans (fr_X7_takeRule_b46 x24 0 S22 h)
  · exact fr_end h F
theorem fr_X7_takeRule (S : St) {r0 : Int32 × St} (h : f_X7_takeRule S = some r0) : Fr W_X7_takeRule S r0.2 := by
  have F : Fr W_X7_takeRule S S := Fr.rf
  unfold f_X7_takeRule at h
  exact F.trans (fr_X7_takeRule_b0  S h)
def W_X7_findFault : List Nat × List Nat × List Nat × Bool := ([7, 8, 9, 10, 11], [26, 27, 28, 29], [], false)
theorem fr_X7_findFault_b16 {rec16 : Int32 × St → Option (Int32 × St)} (v3 : Int32) (hrec16 : ∀ (s : Int32 × St) (r : Int32 × St), rec16 s = some r → Fr W_X7_findFault (s.2) r.2) (S : St) {r0 : Int32 × St} (h : f_X7_findFault_b16 rec16 v3 S = some r0) : Fr W_X7_findFault S r0.2 := by
  have F : Fr W_X7_findFault S S := Fr.rf
  unfold f_X7_findFault_b16 at h
  rcases ite_or h with h | h
  · exact fr_end h F
  · rcases ite_or h with h | h
    · exact fr_end h F
    · obtain ⟨⟨r5, S4⟩, e_, h⟩ := bnd_some h
      replace F := F.trans ((fr_X7_takeRule _ e_).mono (w1 := W_X7_findFault) rfl rfl rfl rfl)
      rcases ite_or h with h | h
      · exact fr_end h F
      · exact F.trans (hrec16 (v3 + 1, S4) _ h)
theorem fr_X7_findFault_l16 : ∀ (n : Nat) (s : Int32 × St) (r : Int32 × St), f_X7_findFault_l16 n s = some r → Fr W_X7_findFault (s.2) r.2 :=
  loop_sound (fun rec16 hrec16 s r h => fr_X7_findFault_b16 s.1 hrec16 s.2 h)
theorem fr_X7_findFault_b0 (S : St) {r0 : Int32 × St} (h : f_X7_findFault_b0 S = some r0) : Fr W_X7_findFault S r0.2 := by
  have F : Fr W_X7_findFault S S := Fr.rf
  unfold f_X7_findFault_b0 at h
  obtain ⟨⟨_u1, S1⟩, e_, h⟩ := bnd_some h
  replace F := F.trans ((fr_X8_dropStaged _ e_).mono (w1 := W_X7_findFault) rfl rfl rfl rfl)
  obtain ⟨S2, e_, h⟩ := vlet_ex h
  replace F := F.trans (Fr.pI (w := W_X7_findFault) (k := 9) e_ rfl)
  obtain ⟨⟨_u3, S3⟩, e_, h⟩ := bnd_some h
  replace F := F.trans ((fr_X7_takePiece _ e_).mono (w1 := W_X7_findFault) rfl rfl rfl rfl)
  exact F.trans (fr_X7_findFault_l16  _ (0, S3) _ h)
theorem fr_X7_findFault (S : St) {r0 : Int32 × St} (h : f_X7_findFault S = some r0) : Fr W_X7_findFault S r0.2 := by
  have F : Fr W_X7_findFault S S := Fr.rf
  unfold f_X7_findFault at h
  exact F.trans (fr_X7_findFault_b0  S h)
def W_X10_clear : List Nat × List Nat × List Nat × Bool := ([5], [], [], false)
theorem fr_X10_clear_b0 (S : St) {r0 : Unit × St} (h : f_X10_clear_b0 S = some r0) : Fr W_X10_clear S r0.2 := by
  have F : Fr W_X10_clear S S := Fr.rf
  unfold f_X10_clear_b0 at h
  obtain ⟨S1, e_, h⟩ := vlet_ex h
  replace F := F.trans (Fr.pI (w := W_X10_clear) (k := 5) e_ rfl)
  exact fr_end h F
theorem fr_X10_clear (S : St) {r0 : Unit × St} (h : f_X10_clear S = some r0) : Fr W_X10_clear S r0.2 := by
  have F : Fr W_X10_clear S S := Fr.rf
  unfold f_X10_clear at h
  exact F.trans (fr_X10_clear_b0  S h)
def W_X8_isOutrankedBy : List Nat × List Nat × List Nat × Bool := ([], [], [], false)
theorem fr_X8_isOutrankedBy_b29 (w0 : Int32) (S : St) {r0 : Int32 × St} (h : f_X8_isOutrankedBy_b29 w0 S = some r0) : Fr W_X8_isOutrankedBy S r0.2 := by
  have F : Fr W_X8_isOutrankedBy S S := Fr.rf
  unfold f_X8_isOutrankedBy_b29 at h
  exact fr_end (chk_some h).2 F
theorem fr_X8_isOutrankedBy_b24 (S : St) {r0 : Int32 × St} (h : f_X8_isOutrankedBy_b24 S = some r0) : Fr W_X8_isOutrankedBy S r0.2 := by
  have F : Fr W_X8_isOutrankedBy S S := Fr.rf
  unfold f_X8_isOutrankedBy_b24 at h
  exact F.trans (fr_X8_isOutrankedBy_b29 1 S h)
theorem fr_X8_isOutrankedBy_b0 (a1 : Int32) (a2 : Int32) (S : St) {r0 : Int32 × St} (h : f_X8_isOutrankedBy_b0 a1 a2 S = some r0) : Fr W_X8_isOutrankedBy S r0.2 := by
  have F : Fr W_X8_isOutrankedBy S S := Fr.rf
  unfold f_X8_isOutrankedBy_b0 at h
  rcases ite_or h with h | h
  · exact F.trans (fr_X8_isOutrankedBy_b24  S h)
  · replace h := (chk_some h).2
    replace h := (chk_some h).2
    rcases ite_or h with h | h
    · exact F.trans (fr_X8_isOutrankedBy_b29 0 S h)
    · exact F.trans (fr_X8_isOutrankedBy_b24  S h)
theorem fr_X8_isOutrankedBy (a1 : Int32) (a2 : Int32) (S : St) {r0 : Int32 × St} (h : f_X8_isOutrankedBy a1 a2 S = some r0) : Fr W_X8_isOutrankedBy S r0.2 := by
  have F : Fr W_X8_isOutrankedBy S S := Fr.rf
  unfold f_X8_isOutrankedBy at h
  exact F.trans (fr_X8_isOutrankedBy_b0 a1 a2 S h)
def W_X8_letCount : List Nat × List Nat × List Nat × Bool := ([], [30], [], false)
theorem fr_X8_letCount_b64 {rec2 : Int32 × St → Option (Unit × St)} (v1 : Int32) (v2 : Int32) (hrec2 : ∀ (s : Int32 × St) (r : Unit × St), rec2 s = some r → Fr W_X8_letCount (s.2) r.2) (S : St) {r0 : Unit × St} (h : f_X8_letCount_b64 rec2 v1 v2 S = some r0) : Fr W_X8_letCount S r0.2 := by
  have F : Fr W_X8_letCount S S := Fr.rf
  unfold f_X8_letCount_b64 at h
  exact F.trans (hrec2 (v2 + 1, S) _ h)
theorem fr_X8_letCount_b41 {rec2 : Int32 × St → Option (Unit × St)} (v1 : Int32) (v2 : Int32) (v4 : Int32) (hrec2 : ∀ (s : Int32 × St) (r : Unit × St), rec2 s = some r → Fr W_X8_letCount (s.2) r.2) (S : St) {r0 : Unit × St} (h : f_X8_letCount_b41 rec2 v1 v2 v4 S = some r0) : Fr W_X8_letCount S r0.2 := by
  have F : Fr W_X8_letCount S S := Fr.rf
  unfold f_X8_letCount_b41 at h
  replace h := (chk_some h).2
  obtain ⟨⟨r4, S3⟩, e_, h⟩ := bnd_some h
  replace F := F.trans ((fr_X8_isOutrankedBy (rd S 30 v4) v1 _ e_).mono (w1 := W_X8_letCount) rfl rfl rfl rfl)
  rcases ite_or h with h | h
  · exact F.trans (fr_X8_letCount_b64 v1 v2 hrec2 S3 h)
  · obtain ⟨S5, e_, h⟩ := vlet_ex (chk_some h).2
    replace F := F.trans (Fr.sto (w := W_X8_letCount) (k := 30) e_ rfl)
    exact F.trans (fr_X8_letCount_b64 v1 v2 hrec2 S5 h)
theorem fr_X8_letCount_b2 {rec2 : Int32 × St → Option (Unit × St)} (v1 : Int32) (v2 : Int32) (hrec2 : ∀ (s : Int32 × St) (r : Unit × St), rec2 s = some r → Fr W_X8_letCount (s.2) r.2) (S : St) {r0 : Unit × St} (h : f_X8_letCount_b2 rec2 v1 v2 S = some r0) : Fr W_X8_letCount S r0.2 := by
  have F : Fr W_X8_letCount S S := Fr.rf
  unfold f_X8_letCount_b2 at h
  rcases ite_or h with h | h
  · exact fr_end h F
  · replace h := (chk_some h).2
    obtain ⟨x1, _, h⟩ := vlet_ex h
    replace h := (chk_some h).2
    obtain ⟨x2, _, h⟩ := vlet_ex h
    rcases ite_or h with h | h
    · exact F.trans (fr_X8_letCount_b41 v1 v2 x2 hrec2 S h)
    · rcases ite_or h with h | h
      · exact F.trans (fr_X8_letCount_b41 v1 v2 x2 hrec2 S h)
      · exact F.trans (fr_X8_letCount_b64 v1 v2 hrec2 S h)
theorem fr_X8_letCount_l2 (v1 : Int32) : ∀ (n : Nat) (s : Int32 × St) (r : Unit × St), f_X8_letCount_l2 v1 n s = some r → Fr W_X8_letCount (s.2) r.2 :=
  loop_sound (fun rec2 hrec2 s r h => fr_X8_letCount_b2 v1 s.1 hrec2 s.2 h)
theorem fr_X8_letCount_b0 (a1 : Int32) (S : St) {r0 : Unit × St} (h : f_X8_letCount_b0 a1 S = some r0) : Fr W_X8_letCount S r0.2 := by
  have F : Fr W_X8_letCount S S := Fr.rf
  unfold f_X8_letCount_b0 at h
  exact F.trans (fr_X8_letCount_l2 a1 _ (0, S) _ h)
theorem fr_X8_letCount (a1 : Int32) (S : St) {r0 : Unit × St} (h : f_X8_letCount a1 S = some r0) : Fr W_X8_letCount S r0.2 := by
  have F : Fr W_X8_letCount S S := Fr.rf
  unfold f_X8_letCount at h
  exact F.trans (fr_X8_letCount_b0 a1 S h)
def W_X8_keepStaged : List Nat × List Nat × List Nat × Bool := ([6], [30], [], false)
theorem fr_X8_keepStaged_b5 {rec5 : Int32 × St → Option (Int32 × St)} (v1 : Int32) (hrec5 : ∀ (s : Int32 × St) (r : Int32 × St), rec5 s = some r → Fr W_X8_keepStaged (s.2) r.2) (S : St) {r0 : Int32 × St} (h : f_X8_keepStaged_b5 rec5 v1 S = some r0) : Fr W_X8_keepStaged S r0.2 := by
  have F : Fr W_X8_keepStaged S S := Fr.rf
  unfold f_X8_keepStaged_b5 at h
  rcases ite_or h with h | h
  · obtain ⟨S2, e_, h⟩ := vlet_ex h
    replace F := F.trans (Fr.pI (w := W_X8_keepStaged) (k := 6) e_ rfl)
    exact fr_end h F
  · obtain ⟨⟨_u3, S3⟩, e_, h⟩ := bnd_some h
    replace F := F.trans ((fr_X8_letCount v1 _ e_).mono (w1 := W_X8_keepStaged) rfl rfl rfl rfl)
    exact F.trans (hrec5 (v1 + 1, S3) _ h)
theorem fr_X8_keepStaged_l5 : ∀ (n : Nat) (s : Int32 × St) (r : Int32 × St), f_X8_keepStaged_l5 n s = some r → Fr W_X8_keepStaged (s.2) r.2 :=
  loop_sound (fun rec5 hrec5 s r h => fr_X8_keepStaged_b5 s.1 hrec5 s.2 h)
theorem fr_X8_keepStaged_b0 (S : St) {r0 : Int32 × St} (h : f_X8_keepStaged_b0 S = some r0) : Fr W_X8_keepStaged S r0.2 := by
  have F : Fr W_X8_keepStaged S S := Fr.rf
  unfold f_X8_keepStaged_b0 at h
  obtain ⟨x1, _, h⟩ := vlet_ex h
  exact F.trans (fr_X8_keepStaged_l5  _ (x1, S) _ h)
theorem fr_X8_keepStaged (S : St) {r0 : Int32 × St} (h : f_X8_keepStaged S = some r0) : Fr W_X8_keepStaged S r0.2 := by
  have F : Fr W_X8_keepStaged S S := Fr.rf
  unfold f_X8_keepStaged at h
  exact F.trans (fr_X8_keepStaged_b0  S h)
def W_X11_read : List Nat × List Nat × List Nat × Bool := ([5, 6, 7, 8, 9, 10, 11], [26, 27, 28, 29, 30], [], false)
theorem fr_X11_read_b42 (w0 : Int32) (S : St) {r0 : Int32 × St} (h : f_X11_read_b42 w0 S = some r0) : Fr W_X11_read S r0.2 := by
  have F : Fr W_X11_read S S := Fr.rf
  unfold f_X11_read_b42 at h
  exact fr_end h F
theorem fr_X11_read_b0 (S : St) {r0 : Int32 × St} (h : f_X11_read_b0 S = some r0) : Fr W_X11_read S r0.2 := by
  have F : Fr W_X11_read S S := Fr.rf
  unfold f_X11_read_b0 at h
  obtain ⟨⟨r2, S1⟩, e_, h⟩ := bnd_some h
  replace F := F.trans ((fr_X7_findFault _ e_).mono (w1 := W_X11_read) rfl rfl rfl rfl)
  obtain ⟨⟨_u3, S3⟩, e_, h⟩ := bnd_some h
  replace F := F.trans ((fr_X10_clear _ e_).mono (w1 := W_X11_read) rfl rfl rfl rfl)
  rcases ite_or h with h | h
  · obtain ⟨⟨r5, S4⟩, e_, h⟩ := bnd_some h
    replace F := F.trans ((fr_X8_keepStaged _ e_).mono (w1 := W_X11_read) rfl rfl rfl rfl)
    exact F.trans (fr_X11_read_b42 r5 S4 h)
  · exact F.trans (fr_X11_read_b42 ((-10) - r2) S3 h)
theorem fr_X11_read (S : St) {r0 : Int32 × St} (h : f_X11_read S = some r0) : Fr W_X11_read S r0.2 := by
  have F : Fr W_X11_read S S := Fr.rf
  unfold f_X11_read at h
  exact F.trans (fr_X11_read_b0  S h)
def W_X12_at : List Nat × List Nat × List Nat × Bool := ([], [], [], false)
theorem fr_X12_at_b18 (w0 : Int32) (S : St) {r0 : Int32 × St} (h : f_X12_at_b18 w0 S = some r0) : Fr W_X12_at S r0.2 := by
  have F : Fr W_X12_at S S := Fr.rf
  unfold f_X12_at_b18 at h
  exact fr_end h F
theorem fr_X12_at_b0 (a1 : Int32) (S : St) {r0 : Int32 × St} (h : f_X12_at_b0 a1 S = some r0) : Fr W_X12_at S r0.2 := by
  have F : Fr W_X12_at S S := Fr.rf
  unfold f_X12_at_b0 at h
  rcases ite_or h with h | h
  · exact F.trans (fr_X12_at_b18 (-1) S h)
  · replace h := (chk_some h).2
    exact F.trans (fr_X12_at_b18 (rd S 64 a1) S h)
theorem fr_X12_at (a1 : Int32) (S : St) {r0 : Int32 × St} (h : f_X12_at a1 S = some r0) : Fr W_X12_at S r0.2 := by
  have F : Fr W_X12_at S S := Fr.rf
  unfold f_X12_at at h
  exact F.trans (fr_X12_at_b0 a1 S h)
def W_X12_take : List Nat × List Nat × List Nat × Bool := ([30, 31, 32], [], [2], false)
theorem fr_X12_take_b26 {rec0 : St → Option (Unit × St)} (hrec0 : ∀ (s : St) (r : Unit × St), rec0 s = some r → Fr W_X12_take s r.2) (S : St) {r0 : Unit × St} (h : f_X12_take_b26 rec0 S = some r0) : Fr W_X12_take S r0.2 := by
  have F : Fr W_X12_take S S := Fr.rf
  unfold f_X12_take_b26 at h
  obtain ⟨S3, e_, h⟩ := vlet_ex h
  replace F := F.trans (Fr.pI (w := W_X12_take) (k := 32) e_ rfl)
  exact F.trans (hrec0 S3 _ h)
theorem fr_X12_take_b310 (S : St) {r0 : Unit × St} (h : f_X12_take_b310 S = some r0) : Fr W_X12_take S r0.2 := by
  have F : Fr W_X12_take S S := Fr.rf
  unfold f_X12_take_b310 at h
  exact fr_end h F
theorem fr_X12_take_b297 (w1 : Int32) (S : St) {r0 : Unit × St} (h : f_X12_take_b297 w1 S = some r0) : Fr W_X12_take S r0.2 := by
  have F : Fr W_X12_take S S := Fr.rf
  unfold f_X12_take_b297 at h
  obtain ⟨S20, e_, h⟩ := vlet_ex h
  replace F := F.trans (Fr.pI (w := W_X12_take) (k := 30) e_ rfl)
  obtain ⟨S21, e_, h⟩ := vlet_ex h
  replace F := F.trans (Fr.pI (w := W_X12_take) (k := 32) e_ rfl)
  exact F.trans (fr_X12_take_b310  S21 h)
theorem fr_X12_take_b246 {rec184 : St → Option (Unit × St)} (w1 : Int64) (hrec184 : ∀ (s : St) (r : Unit × St), rec184 s = some r → Fr W_X12_take s r.2) (S : St) {r0 : Unit × St} (h : f_X12_take_b246 rec184 w1 S = some r0) : Fr W_X12_take S r0.2 := by
  have F : Fr W_X12_take S S := Fr.rf
  unfold f_X12_take_b246 at h
  obtain ⟨S29, e_, h⟩ := vlet_ex h
  replace F := F.trans (Fr.pJ (w := W_X12_take) (k := 2) e_ rfl)
  obtain ⟨S30, e_, h⟩ := vlet_ex h
  replace F := F.trans (Fr.pI (w := W_X12_take) (k := 32) e_ rfl)
  exact F.trans (hrec184 S30 _ h)
theorem fr_X12_take_b184 {rec184 : St → Option (Unit × St)} (hrec184 : ∀ (s : St) (r : Unit × St), rec184 s = some r → Fr W_X12_take s r.2) (S : St) {r0 : Unit × St} (h : f_X12_take_b184 rec184 S = some r0) : Fr W_X12_take S r0.2 := by
  have F : Fr W_X12_take S S := Fr.rf
  unfold f_X12_take_b184 at h
  obtain ⟨⟨r24, S23⟩, e_, h⟩ := bnd_some h
  replace F := F.trans ((fr_X12_at (gI S 32) _ e_).mono (w1 := W_X12_take) rfl rfl rfl rfl)
  obtain ⟨⟨r26, S25⟩, e_, h⟩ := bnd_some h
  replace F := F.trans ((fr_X12_in (Int32.toInt64 r24) 48 57 _ e_).mono (w1 := W_X12_take) rfl rfl rfl rfl)
  rcases ite_or h with h | h
  · exact F.trans (fr_X12_take_b310  S25 h)
  · rcases ite_or h with h | h
    · obtain ⟨⟨r28, S27⟩, e_, h⟩ := bnd_some h
      replace F := F.trans ((fr_X12_at (gI S25 32) _ e_).mono (w1 := W_X12_take) rfl rfl rfl rfl)
      exact F.trans (fr_X12_take_b246 ((((gJ S25 2) * 10) + (Int32.toInt64 r28)) - 48) hrec184 S27 h)
    · exact F.trans (fr_X12_take_b246 (gJ S25 2) hrec184 S25 h)
theorem fr_X12_take_l184 : ∀ (n : Nat) (s : St) (r : Unit × St), f_X12_take_l184 n s = some r → Fr W_X12_take s r.2 :=
  loop_sound (fun rec184 hrec184 s r h => fr_X12_take_b184  hrec184 s h)
theorem fr_X12_take_b142 {rec78 : St → Option (Unit × St)} (w1 : Int64) (hrec78 : ∀ (s : St) (r : Unit × St), rec78 s = some r → Fr W_X12_take s r.2) (S : St) {r0 : Unit × St} (h : f_X12_take_b142 rec78 w1 S = some r0) : Fr W_X12_take S r0.2 := by
  have F : Fr W_X12_take S S := Fr.rf
  unfold f_X12_take_b142 at h
  obtain ⟨S36, e_, h⟩ := vlet_ex h
  replace F := F.trans (Fr.pJ (w := W_X12_take) (k := 2) e_ rfl)
  obtain ⟨S37, e_, h⟩ := vlet_ex h
  replace F := F.trans (Fr.pI (w := W_X12_take) (k := 32) e_ rfl)
  exact F.trans (hrec78 S37 _ h)
theorem fr_X12_take_b78 {rec78 : St → Option (Unit × St)} (hrec78 : ∀ (s : St) (r : Unit × St), rec78 s = some r → Fr W_X12_take s r.2) (S : St) {r0 : Unit × St} (h : f_X12_take_b78 rec78 S = some r0) : Fr W_X12_take S r0.2 := by
  have F : Fr W_X12_take S S := Fr.rf
  unfold f_X12_take_b78 at h
  obtain ⟨⟨r33, S32⟩, e_, h⟩ := bnd_some h
  replace F := F.trans ((fr_X12_at (gI S 32) _ e_).mono (w1 := W_X12_take) rfl rfl rfl rfl)
  obtain ⟨⟨r35, S34⟩, e_, h⟩ := bnd_some h
  replace F := F.trans ((fr_X12_in (Int32.toInt64 r33) 97 122 _ e_).mono (w1 := W_X12_take) rfl rfl rfl rfl)
  rcases ite_or h with h | h
  · exact F.trans (fr_X12_take_b310  S34 h)
  · rcases ite_or h with h | h
    · exact F.trans (fr_X12_take_b142 (-1) hrec78 S34 h)
    · obtain ⟨⟨r39, S38⟩, e_, h⟩ := bnd_some h
      replace F := F.trans ((fr_X12_at (gI S34 32) _ e_).mono (w1 := W_X12_take) rfl rfl rfl rfl)
      exact F.trans (fr_X12_take_b142 ((((gJ S34 2) * 32) + (Int32.toInt64 r39)) - 96) hrec78 S38 h)
theorem fr_X12_take_l78 : ∀ (n : Nat) (s : St) (r : Unit × St), f_X12_take_l78 n s = some r → Fr W_X12_take s r.2 :=
  loop_sound (fun rec78 hrec78 s r h => fr_X12_take_b78  hrec78 s h)
theorem fr_X12_take_b0 {rec0 : St → Option (Unit × St)} (hrec0 : ∀ (s : St) (r : Unit × St), rec0 s = some r → Fr W_X12_take s r.2) (S : St) {r0 : Unit × St} (h : f_X12_take_b0 rec0 S = some r0) : Fr W_X12_take S r0.2 := by
  have F : Fr W_X12_take S S := Fr.rf
  unfold f_X12_take_b0 at h
  obtain ⟨⟨r2, S1⟩, e_, h⟩ := bnd_some h
  replace F := F.trans ((fr_X12_at (gI S 32) _ e_).mono (w1 := W_X12_take) rfl rfl rfl rfl)
  rcases ite_or h with h | h
  · exact F.trans (fr_X12_take_b26  hrec0 S1 h)
  · obtain ⟨⟨r5, S4⟩, e_, h⟩ := bnd_some h
    replace F := F.trans ((fr_X12_at (gI S1 32) _ e_).mono (w1 := W_X12_take) rfl rfl rfl rfl)
    rcases ite_or h with h | h
    · exact F.trans (fr_X12_take_b26  hrec0 S4 h)
    · obtain ⟨S6, e_, h⟩ := vlet_ex h
      replace F := F.trans (Fr.pI (w := W_X12_take) (k := 31) e_ rfl)
      obtain ⟨S7, e_, h⟩ := vlet_ex h
      replace F := F.trans (Fr.pJ (w := W_X12_take) (k := 2) e_ rfl)
      obtain ⟨⟨r9, S8⟩, e_, h⟩ := bnd_some h
      replace F := F.trans ((fr_X12_at (gI S7 32) _ e_).mono (w1 := W_X12_take) rfl rfl rfl rfl)
      obtain ⟨⟨r11, S10⟩, e_, h⟩ := bnd_some h
      replace F := F.trans ((fr_X12_in (Int32.toInt64 r9) 97 122 _ e_).mono (w1 := W_X12_take) rfl rfl rfl rfl)
      rcases ite_or h with h | h
      · obtain ⟨⟨r13, S12⟩, e_, h⟩ := bnd_some h
        replace F := F.trans ((fr_X12_at (gI S10 32) _ e_).mono (w1 := W_X12_take) rfl rfl rfl rfl)
        obtain ⟨⟨r15, S14⟩, e_, h⟩ := bnd_some h
        replace F := F.trans ((fr_X12_in (Int32.toInt64 r13) 48 57 _ e_).mono (w1 := W_X12_take) rfl rfl rfl rfl)
        rcases ite_or h with h | h
        · obtain ⟨⟨r17, S16⟩, e_, h⟩ := bnd_some h
          replace F := F.trans ((fr_X12_at (gI S14 32) _ e_).mono (w1 := W_X12_take) rfl rfl rfl rfl)
          rcases ite_or h with h | h
          · exact F.trans (fr_X12_take_b297 0 S16 h)
          · obtain ⟨⟨r19, S18⟩, e_, h⟩ := bnd_some h
            replace F := F.trans ((fr_X12_at (gI S16 32) _ e_).mono (w1 := W_X12_take) rfl rfl rfl rfl)
            rcases ite_or h with h | h
            · exact F.trans (fr_X12_take_b297 3 S18 h)
            · exact F.trans (fr_X12_take_b297 4 S18 h)
        · obtain ⟨S22, e_, h⟩ := vlet_ex h
          replace F := F.trans (Fr.pI (w := W_X12_take) (k := 30) e_ rfl)
          exact F.trans (fr_X12_take_l184  _ S22 _ h)
      · obtain ⟨S31, e_, h⟩ := vlet_ex h
        replace F := F.trans (Fr.pI (w := W_X12_take) (k := 30) e_ rfl)
        exact F.trans (fr_X12_take_l78  _ S31 _ h)
theorem fr_X12_take_l0 : ∀ (n : Nat) (s : St) (r : Unit × St), f_X12_take_l0 n s = some r → Fr W_X12_take s r.2 :=
  loop_sound (fun rec0 hrec0 s r h => fr_X12_take_b0  hrec0 s h)
theorem fr_X12_take (S : St) {r0 : Unit × St} (h : f_X12_take S = some r0) : Fr W_X12_take S r0.2 := by
  have F : Fr W_X12_take S S := Fr.rf
  unfold f_X12_take at h
  exact F.trans (fr_X12_take_l0  _ S _ h)
def W_X12_word : List Nat × List Nat × List Nat × Bool := ([], [], [], false)
theorem fr_X12_word_b95 (w0 : Int64) (S : St) {r0 : Int64 × St} (h : f_X12_word_b95 w0 S = some r0) : Fr W_X12_word S r0.2 := by
  have F : Fr W_X12_word S S := Fr.rf
  unfold f_X12_word_b95 at h
  exact fr_end h F
theorem fr_X12_word_b69 (v5 : Int32) (w0 : Int64) (S : St) {r0 : Int64 × St} (h : f_X12_word_b69 v5 w0 S = some r0) : Fr W_X12_word S r0.2 := by
  have F : Fr W_X12_word S S := Fr.rf
  unfold f_X12_word_b69 at h
  rcases ite_or h with h | h
  · exact F.trans (fr_X12_word_b95 w0 S h)
  · exact F.trans (fr_X12_word_b95 (((w0 * 32) + (Int32.toInt64 v5)) - 96) S h)
theorem fr_X12_word_b0 (a1 : Int32) (a2 : Int32) (a3 : Int32) (a4 : Int32) (a5 : Int32) (a6 : Int32) (S : St) {r0 : Int64 × St} (h : f_X12_word_b0 a1 a2 a3 a4 a5 a6 S = some r0) : Fr W_X12_word S r0.2 := by
  have F : Fr W_X12_word S S := Fr.rf
  unfold f_X12_word_b0 at h
  obtain ⟨y1, _, h⟩ := vlet_ex h
  obtain ⟨y2, _, h⟩ := vlet_ex h
  rcases ite_or h with h | h
  · exact F.trans (fr_X12_word_b69 a6 y2 S h)
  · exact F.trans (fr_X12_word_b69 a6 (((y2 * 32) + (Int32.toInt64 a5)) - 96) S h)
theorem fr_X12_word (a1 : Int32) (a2 : Int32) (a3 : Int32) (a4 : Int32) (a5 : Int32) (a6 : Int32) (S : St) {r0 : Int64 × St} (h : f_X12_word a1 a2 a3 a4 a5 a6 S = some r0) : Fr W_X12_word S r0.2 := by
  have F : Fr W_X12_word S S := Fr.rf
  unfold f_X12_word at h
  exact F.trans (fr_X12_word_b0 a1 a2 a3 a4 a5 a6 S h)
def W_X12_lowest : List Nat × List Nat × List Nat × Bool := ([], [], [], false)
theorem fr_X12_lowest_b22 (w0 : Int32) (S : St) {r0 : Int32 × St} (h : f_X12_lowest_b22 w0 S = some r0) : Fr W_X12_lowest S r0.2 := by
  have F : Fr W_X12_lowest S S := Fr.rf
  unfold f_X12_lowest_b22 at h
  exact fr_end h F
theorem fr_X12_lowest_b17 (S : St) {r0 : Int32 × St} (h : f_X12_lowest_b17 S = some r0) : Fr W_X12_lowest S r0.2 := by
  have F : Fr W_X12_lowest S S := Fr.rf
  unfold f_X12_lowest_b17 at h
  exact F.trans (fr_X12_lowest_b22 1 S h)
theorem fr_X12_lowest_b0 (a1 : Int32) (S : St) {r0 : Int32 × St} (h : f_X12_lowest_b0 a1 S = some r0) : Fr W_X12_lowest S r0.2 := by
  have F : Fr W_X12_lowest S S := Fr.rf
  unfold f_X12_lowest_b0 at h
  rcases ite_or h with h | h
  · exact F.trans (fr_X12_lowest_b17  S h)
  · rcases ite_or h with h | h
    · exact F.trans (fr_X12_lowest_b17  S h)
    · rcases ite_or h with h | h
      · exact F.trans (fr_X12_lowest_b17  S h)
      · exact F.trans (fr_X12_lowest_b22 0 S h)
theorem fr_X12_lowest (a1 : Int32) (S : St) {r0 : Int32 × St} (h : f_X12_lowest a1 S = some r0) : Fr W_X12_lowest S r0.2 := by
  have F : Fr W_X12_lowest S S := Fr.rf
  unfold f_X12_lowest at h
  exact F.trans (fr_X12_lowest_b0 a1 S h)
def W_X12_highest : List Nat × List Nat × List Nat × Bool := ([], [], [], false)
theorem fr_X12_highest_b50 (w0 : Int32) (S : St) {r0 : Int32 × St} (h : f_X12_highest_b50 w0 S = some r0) : Fr W_X12_highest S r0.2 := by
  have F : Fr W_X12_highest S S := Fr.rf
  unfold f_X12_highest_b50 at h
  exact fr_end h F
theorem fr_X12_highest_b26 (v0 : Int32) (S : St) {r0 : Int32 × St} (h : f_X12_highest_b26 v0 S = some r0) : Fr W_X12_highest S r0.2 := by
  have F : Fr W_X12_highest S S := Fr.rf
  unfold f_X12_highest_b26 at h
  rcases ite_or h with h | h
  · exact F.trans (fr_X12_highest_b50 1 S h)
  · rcases ite_or h with h | h
    · exact F.trans (fr_X12_highest_b50 99 S h)
    · exact F.trans (fr_X12_highest_b50 960 S h)
theorem fr_X12_highest_b0 (a1 : Int32) (S : St) {r0 : Int32 × St} (h : f_X12_highest_b0 a1 S = some r0) : Fr W_X12_highest S r0.2 := by
  have F : Fr W_X12_highest S S := Fr.rf
  unfold f_X12_highest_b0 at h
  rcases ite_or h with h | h
  · rcases ite_or h with h | h
    · exact F.trans (fr_X12_highest_b26 a1 S h)
    · rcases ite_or h with h | h
      · exact F.trans (fr_X12_highest_b26 a1 S h)
      · exact F.trans (fr_X12_highest_b50 127 S h)
  · exact F.trans (fr_X12_highest_b50 100 S h)
theorem fr_X12_highest (a1 : Int32) (S : St) {r0 : Int32 × St} (h : f_X12_highest a1 S = some r0) : Fr W_X12_highest S r0.2 := by
  have F : Fr W_X12_highest S S := Fr.rf
  unfold f_X12_highest at h
  exact F.trans (fr_X12_highest_b0 a1 S h)
def W_X12_isNumber : List Nat × List Nat × List Nat × Bool := ([], [], [], false)
theorem fr_X12_isNumber_b27 (w0 : Int32) (S : St) {r0 : Int32 × St} (h : f_X12_isNumber_b27 w0 S = some r0) : Fr W_X12_isNumber S r0.2 := by
  have F : Fr W_X12_isNumber S S := Fr.rf
  unfold f_X12_isNumber_b27 at h
  exact fr_end (chk_some h).2 F
theorem fr_X12_isNumber_b26 (S : St) {r0 : Int32 × St} (h : f_X12_isNumber_b26 S = some r0) : Fr W_X12_isNumber S r0.2 := by
  have F : Fr W_X12_isNumber S S := Fr.rf
  unfold f_X12_isNumber_b26 at h
  exact F.trans (fr_X12_isNumber_b27 0 S h)
theorem fr_X12_isNumber_b0 (a1 : Int32) (a2 : Int32) (S : St) {r0 : Int32 × St} (h : f_X12_isNumber_b0 a1 a2 S = some r0) : Fr W_X12_isNumber S r0.2 := by
  have F : Fr W_X12_isNumber S S := Fr.rf
  unfold f_X12_isNumber_b0 at h
  rcases ite_or h with h | h
  · obtain ⟨⟨r2, S1⟩, e_, h⟩ := bnd_some h
    replace F := F.trans ((fr_X12_in (gJ S 2) (Int32.toInt64 a1) (Int32.toInt64 a2) _ e_).mono (w1 := W_X12_isNumber) rfl rfl rfl rfl)
    rcases ite_or h with h | h
    · exact F.trans (fr_X12_isNumber_b26  S1 h)
    · exact F.trans (fr_X12_isNumber_b27 1 S1 h)
  · exact F.trans (fr_X12_isNumber_b26  S h)
theorem fr_X12_isNumber (a1 : Int32) (a2 : Int32) (S : St) {r0 : Int32 × St} (h : f_X12_isNumber a1 a2 S = some r0) : Fr W_X12_isNumber S r0.2 := by
  have F : Fr W_X12_isNumber S S := Fr.rf
  unfold f_X12_isNumber at h
  exact F.trans (fr_X12_isNumber_b0 a1 a2 S h)
def W_X12_wordOf : List Nat × List Nat × List Nat × Bool := ([], [], [], false)
theorem fr_X12_wordOf_b0 (a1 : Int32) (S : St) {r0 : Int64 × St} (h : f_X12_wordOf_b0 a1 S = some r0) : Fr W_X12_wordOf S r0.2 := by
  have F : Fr W_X12_wordOf S S := Fr.rf
  unfold f_X12_wordOf_b0 at h
  rcases ite_or h with h | h
  · obtain ⟨⟨r3, S2⟩, e_, h⟩ := bnd_some h
    replace F := F.trans ((fr_X12_word 115 104 111 114 116 0 _ e_).mono (w1 := W_X12_wordOf) rfl rfl rfl rfl)
    exact fr_end h F
  rcases ite_or h with h | h
  · obtain ⟨⟨r6, S5⟩, e_, h⟩ := bnd_some h
    replace F := F.trans ((fr_X12_word 112 108 97 105 110 0 _ e_).mono (w1 := W_X12_wordOf) rfl rfl rfl rfl)
    exact fr_end h F
  rcases ite_or h with h | h
  · obtain ⟨⟨r9, S8⟩, e_, h⟩ := bnd_some h
    replace F := F.trans ((fr_X12_word 104 101 108 100 0 0 _ e_).mono (w1 := W_X12_wordOf) rfl rfl rfl rfl)
    exact fr_end h F
  rcases ite_or h with h | h
  · obtain ⟨⟨r12, S11⟩, e_, h⟩ := bnd_some h
    replace F := F.trans ((fr_X12_word 108 101 97 115 116 0 _ e_).mono (w1 := W_X12_wordOf) rfl rfl rfl rfl)
    exact fr_end h F
  rcases ite_or h with h | h
  · obtain ⟨⟨r15, S14⟩, e_, h⟩ := bnd_some h
    replace F := F.trans ((fr_X12_word 97 99 99 101 110 116 _ e_).mono (w1 := W_X12_wordOf) rfl rfl rfl rfl)
    exact fr_end h F
  rcases ite_or h with h | h
  · obtain ⟨⟨r18, S17⟩, e_, h⟩ := bnd_some h
    replace F := F.trans ((fr_X12_word 102 105 114 115 116 0 _ e_).mono (w1 := W_X12_wordOf) rfl rfl rfl rfl)
    exact fr_end h F
  rcases ite_or h with h | h
  · obtain ⟨⟨r21, S20⟩, e_, h⟩ := bnd_some h
    replace F := F.trans ((fr_X12_word 98 101 97 116 0 0 _ e_).mono (w1 := W_X12_wordOf) rfl rfl rfl rfl)
    exact fr_end h F
  rcases ite_or h with h | h
  · obtain ⟨⟨r24, S23⟩, e_, h⟩ := bnd_some h
    replace F := F.trans ((fr_X12_word 116 114 105 108 108 0 _ e_).mono (w1 := W_X12_wordOf) rfl rfl rfl rfl)
    exact fr_end h F
  rcases ite_or h with h | h
  · obtain ⟨⟨r27, S26⟩, e_, h⟩ := bnd_some h
    replace F := F.trans ((fr_X12_word 117 112 112 101 114 0 _ e_).mono (w1 := W_X12_wordOf) rfl rfl rfl rfl)
    exact fr_end h F
  rcases ite_or h with h | h
  · obtain ⟨⟨r30, S29⟩, e_, h⟩ := bnd_some h
    replace F := F.trans ((fr_X12_word 116 117 114 110 0 0 _ e_).mono (w1 := W_X12_wordOf) rfl rfl rfl rfl)
    exact fr_end h F
  rcases ite_or h with h | h
  · obtain ⟨⟨r33, S32⟩, e_, h⟩ := bnd_some h
    replace F := F.trans ((fr_X12_word 108 101 97 110 0 0 _ e_).mono (w1 := W_X12_wordOf) rfl rfl rfl rfl)
    exact fr_end h F
  rcases ite_or h with h | h
  · obtain ⟨⟨r36, S35⟩, e_, h⟩ := bnd_some h
    replace F := F.trans ((fr_X12_word 114 111 108 108 0 0 _ e_).mono (w1 := W_X12_wordOf) rfl rfl rfl rfl)
    exact fr_end h F
  obtain ⟨⟨r38, S37⟩, e_, h⟩ := bnd_some h
  replace F := F.trans ((fr_X12_word 108 111 111 115 101 0 _ e_).mono (w1 := W_X12_wordOf) rfl rfl rfl rfl)
  exact fr_end h F
theorem fr_X12_wordOf (a1 : Int32) (S : St) {r0 : Int64 × St} (h : f_X12_wordOf a1 S = some r0) : Fr W_X12_wordOf S r0.2 := by
  have F : Fr W_X12_wordOf S S := Fr.rf
  unfold f_X12_wordOf at h
  exact F.trans (fr_X12_wordOf_b0 a1 S h)
def W_X12_named : List Nat × List Nat × List Nat × Bool := ([], [], [], false)
theorem fr_X12_named_b2 {rec2 : Int32 × St → Option (Int32 × St)} (v1 : Int32) (hrec2 : ∀ (s : Int32 × St) (r : Int32 × St), rec2 s = some r → Fr W_X12_named (s.2) r.2) (S : St) {r0 : Int32 × St} (h : f_X12_named_b2 rec2 v1 S = some r0) : Fr W_X12_named S r0.2 := by
  have F : Fr W_X12_named S S := Fr.rf
  unfold f_X12_named_b2 at h
  rcases ite_or h with h | h
  · exact fr_end h F
  · obtain ⟨⟨r2, S1⟩, e_, h⟩ := bnd_some h
    replace F := F.trans ((fr_X12_wordOf v1 _ e_).mono (w1 := W_X12_named) rfl rfl rfl rfl)
    rcases ite_or h with h | h
    · exact fr_end h F
    · exact F.trans (hrec2 (v1 + 1, S1) _ h)
theorem fr_X12_named_l2 : ∀ (n : Nat) (s : Int32 × St) (r : Int32 × St), f_X12_named_l2 n s = some r → Fr W_X12_named (s.2) r.2 :=
  loop_sound (fun rec2 hrec2 s r h => fr_X12_named_b2 s.1 hrec2 s.2 h)
theorem fr_X12_named_b0 (S : St) {r0 : Int32 × St} (h : f_X12_named_b0 S = some r0) : Fr W_X12_named S r0.2 := by
  have F : Fr W_X12_named S S := Fr.rf
  unfold f_X12_named_b0 at h
  exact F.trans (fr_X12_named_l2  _ (0, S) _ h)
theorem fr_X12_named (S : St) {r0 : Int32 × St} (h : f_X12_named S = some r0) : Fr W_X12_named S r0.2 := by
  have F : Fr W_X12_named S S := Fr.rf
  unfold f_X12_named at h
  exact F.trans (fr_X12_named_b0  S h)
def W_X12_takeRule : List Nat × List Nat × List Nat × Bool := ([30, 31, 32], [60, 61, 62, 63], [2], false)
theorem fr_X12_takeRule_b14 (S : St) {r0 : Int32 × St} (h : f_X12_takeRule_b14 S = some r0) : Fr W_X12_takeRule S r0.2 := by
  have F : Fr W_X12_takeRule S S := Fr.rf
  unfold f_X12_takeRule_b14 at h
  exact fr_end h F
theorem fr_X12_takeRule_b222 (w0 : Int32) (S : St) {r0 : Int32 × St} (h : f_X12_takeRule_b222 w0 S = some r0) : Fr W_X12_takeRule S r0.2 := by
  have F : Fr W_X12_takeRule S S := Fr.rf
  unfold f_X12_takeRule_b222 at h
  exact fr_end (chk_some h).2 F
theorem fr_X12_takeRule_b209 (S : St) {r0 : Int32 × St} (h : f_X12_takeRule_b209 S = some r0) : Fr W_X12_takeRule S r0.2 := by
  have F : Fr W_X12_takeRule S S := Fr.rf
  unfold f_X12_takeRule_b209 at h
  rcases ite_or h with h | h
  · exact F.trans (fr_X12_takeRule_b222 1 S h)
  · exact F.trans (fr_X12_takeRule_b222 0 S h)
theorem fr_X12_takeRule_b98 (v1 : Int32) (w0 : Int32) (S : St) {r0 : Int32 × St} (h : f_X12_takeRule_b98 v1 w0 S = some r0) : Fr W_X12_takeRule S r0.2 := by
  have F : Fr W_X12_takeRule S S := Fr.rf
  unfold f_X12_takeRule_b98 at h
  rcases ite_or h with h | h
  · exact fr_end h F
  · obtain ⟨S5, e_, h⟩ := vlet_ex (chk_some h).2
    replace F := F.trans (Fr.sto (w := W_X12_takeRule) (k := 61) e_ rfl)
    obtain ⟨⟨_u6, S6⟩, e_, h⟩ := bnd_some h
    replace F := F.trans ((fr_X12_take _ e_).mono (w1 := W_X12_takeRule) rfl rfl rfl rfl)
    obtain ⟨⟨r8, S7⟩, e_, h⟩ := bnd_some h
    replace F := F.trans ((fr_X12_lowest w0 _ e_).mono (w1 := W_X12_takeRule) rfl rfl rfl rfl)
    obtain ⟨⟨r10, S9⟩, e_, h⟩ := bnd_some h
    replace F := F.trans ((fr_X12_highest w0 _ e_).mono (w1 := W_X12_takeRule) rfl rfl rfl rfl)
    obtain ⟨⟨r12, S11⟩, e_, h⟩ := bnd_some h
    replace F := F.trans ((fr_X12_isNumber r8 r10 _ e_).mono (w1 := W_X12_takeRule) rfl rfl rfl rfl)
    rcases ite_or h with h | h
    · exact fr_end h F
    · obtain ⟨S13, e_, h⟩ := vlet_ex (chk_some h).2
      replace F := F.trans (Fr.sto (w := W_X12_takeRule) (k := 62) e_ rfl)
      obtain ⟨⟨_u14, S14⟩, e_, h⟩ := bnd_some h
      replace F := F.trans ((fr_X12_take _ e_).mono (w1 := W_X12_takeRule) rfl rfl rfl rfl)
      rcases ite_or h with h | h
      · obtain ⟨⟨r16, S15⟩, e_, h⟩ := bnd_some h
        replace F := F.trans ((fr_X12_word 114 97 110 107 0 0 _ e_).mono (w1 := W_X12_takeRule) rfl rfl rfl rfl)
        rcases ite_or h with h | h
        · obtain ⟨⟨_u17, S17⟩, e_, h⟩ := bnd_some h
          replace F := F.trans ((fr_X12_take _ e_).mono (w1 := W_X12_takeRule) rfl rfl rfl rfl)
          obtain ⟨⟨r19, S18⟩, e_, h⟩ := bnd_some h
          replace F := F.trans ((fr_X12_isNumber 0 9 _ e_).mono (w1 := W_X12_takeRule) rfl rfl rfl rfl)
          rcases ite_or h with h | h
          · exact fr_end h F
          · obtain ⟨S20, e_, h⟩ := vlet_ex (chk_some h).2
            replace F := F.trans (Fr.sto (w := W_X12_takeRule) (k := 63) e_ rfl)
            obtain ⟨⟨_u21, S21⟩, e_, h⟩ := bnd_some h
            replace F := F.trans ((fr_X12_take _ e_).mono (w1 := W_X12_takeRule) rfl rfl rfl rfl)
            exact F.trans (fr_X12_takeRule_b209  S21 h)
        · exact F.trans (fr_X12_takeRule_b209  S15 h)
      · exact F.trans (fr_X12_takeRule_b209  S14 h)
theorem fr_X12_takeRule_b82 (v1 : Int32) (S : St) {r0 : Int32 × St} (h : f_X12_takeRule_b82 v1 S = some r0) : Fr W_X12_takeRule S r0.2 := by
  have F : Fr W_X12_takeRule S S := Fr.rf
  unfold f_X12_takeRule_b82 at h
  rcases ite_or h with h | h
  · obtain ⟨⟨r23, S22⟩, e_, h⟩ := bnd_some h
    replace F := F.trans ((fr_X12_named _ e_).mono (w1 := W_X12_takeRule) rfl rfl rfl rfl)
    exact F.trans (fr_X12_takeRule_b98 v1 r23 S22 h)
  · exact F.trans (fr_X12_takeRule_b98 v1 (-1) S h)
theorem fr_X12_takeRule_b0 (a1 : Int32) (S : St) {r0 : Int32 × St} (h : f_X12_takeRule_b0 a1 S = some r0) : Fr W_X12_takeRule S r0.2 := by
  have F : Fr W_X12_takeRule S S := Fr.rf
  unfold f_X12_takeRule_b0 at h
  rcases ite_or h with h | h
  · exact F.trans (fr_X12_takeRule_b14  S h)
  · rcases ite_or h with h | h
    · obtain ⟨S1, e_, h⟩ := vlet_ex (chk_some h).2
      replace F := F.trans (Fr.sto (w := W_X12_takeRule) (k := 60) e_ rfl)
      obtain ⟨S2, e_, h⟩ := vlet_ex (chk_some h).2
      replace F := F.trans (Fr.sto (w := W_X12_takeRule) (k := 63) e_ rfl)
      obtain ⟨⟨r4, S3⟩, e_, h⟩ := bnd_some h
      replace F := F.trans ((fr_X12_word 118 111 105 99 101 0 _ e_).mono (w1 := W_X12_takeRule) rfl rfl rfl rfl)
      rcases ite_or h with h | h
      · obtain ⟨⟨_u24, S24⟩, e_, h⟩ := bnd_some h
        replace F := F.trans ((fr_X12_take _ e_).mono (w1 := W_X12_takeRule) rfl rfl rfl rfl)
        obtain ⟨⟨r26, S25⟩, e_, h⟩ := bnd_some h
        replace F := F.trans ((fr_X12_isNumber 0 3 _ e_).mono (w1 := W_X12_takeRule) rfl rfl rfl rfl)
        rcases ite_or h with h | h
        · exact fr_end h F
        · obtain ⟨S27, e_, h⟩ := vlet_ex (chk_some h).2
          replace F := F.trans (Fr.sto (w := W_X12_takeRule) (k := 60) e_ rfl)
          obtain ⟨⟨_u28, S28⟩, e_, h⟩ := bnd_some h
          replace F := F.trans ((fr_X12_take _ e_).mono (w1 := W_X12_takeRule) rfl rfl rfl rfl)
          exact F.trans (fr_X12_takeRule_b82 a1 S28 h)
      · exact F.trans (fr_X12_takeRule_b82 a1 S3 h)
    · exact F.trans (fr_X12_takeRule_b14  S h)
theorem fr_X12_takeRule (a1 : Int32) (S : St) {r0 : Int32 × St} (h : f_X12_takeRule a1 S = some r0) : Fr W_X12_takeRule S r0.2 := by
  have F : Fr W_X12_takeRule S S := Fr.rf
  unfold f_X12_takeRule at h
  exact F.trans (fr_X12_takeRule_b0 a1 S h)
def W_X12_read : List Nat × List Nat × List Nat × Bool := ([28, 29, 30, 31, 32], [60, 61, 62, 63], [2], false)
theorem fr_X12_read_b47 (v1 : Int32) (v2 : Int32) (S : St) {r0 : Int32 × St} (h : f_X12_read_b47 v1 v2 S = some r0) : Fr W_X12_read S r0.2 := by
  have F : Fr W_X12_read S S := Fr.rf
  unfold f_X12_read_b47 at h
  obtain ⟨x4, _, h⟩ := vlet_ex h
  obtain ⟨S5, e_, h⟩ := vlet_ex h
  replace F := F.trans (Fr.pI (w := W_X12_read) (k := 29) e_ rfl)
  rcases ite_or h with h | h
  · exact fr_end h F
  · obtain ⟨S6, e_, h⟩ := vlet_ex h
    replace F := F.trans (Fr.pI (w := W_X12_read) (k := 28) e_ rfl)
    exact fr_end h F
theorem fr_X12_read_b16 {rec16 : Int32 × Int32 × St → Option (Int32 × St)} (v1 : Int32) (v2 : Int32) (hrec16 : ∀ (s : Int32 × Int32 × St) (r : Int32 × St), rec16 s = some r → Fr W_X12_read (s.2.2) r.2) (S : St) {r0 : Int32 × St} (h : f_X12_read_b16 rec16 v1 v2 S = some r0) : Fr W_X12_read S r0.2 := by
  have F : Fr W_X12_read S S := Fr.rf
  unfold f_X12_read_b16 at h
  rcases ite_or h with h | h
  · exact F.trans (fr_X12_read_b47 v1 v2 S h)
  · rcases ite_or h with h | h
    · exact F.trans (fr_X12_read_b47 v1 v2 S h)
    · obtain ⟨⟨r8, S7⟩, e_, h⟩ := bnd_some h
      replace F := F.trans ((fr_X12_takeRule v1 _ e_).mono (w1 := W_X12_read) rfl rfl rfl rfl)
      rcases ite_or h with h | h
      · exact F.trans (hrec16 (v1, r8, S7) _ h)
      · obtain ⟨⟨_u9, S9⟩, e_, h⟩ := bnd_some h
        replace F := F.trans ((fr_X12_take _ e_).mono (w1 := W_X12_read) rfl rfl rfl rfl)
        exact F.trans (hrec16 (v1 + 1, r8, S9) _ h)
theorem fr_X12_read_l16 : ∀ (n : Nat) (s : Int32 × Int32 × St) (r : Int32 × St), f_X12_read_l16 n s = some r → Fr W_X12_read (s.2.2) r.2 :=
  loop_sound (fun rec16 hrec16 s r h => fr_X12_read_b16 s.1 s.2.1 hrec16 s.2.2 h)
theorem fr_X12_read_b0 (S : St) {r0 : Int32 × St} (h : f_X12_read_b0 S = some r0) : Fr W_X12_read S r0.2 := by
  have F : Fr W_X12_read S S := Fr.rf
  unfold f_X12_read_b0 at h
  obtain ⟨x1, _, h⟩ := vlet_ex h
  obtain ⟨S2, e_, h⟩ := vlet_ex h
  replace F := F.trans (Fr.pI (w := W_X12_read) (k := 32) e_ rfl)
  obtain ⟨⟨_u3, S3⟩, e_, h⟩ := bnd_some h
  replace F := F.trans ((fr_X12_take _ e_).mono (w1 := W_X12_read) rfl rfl rfl rfl)
  exact F.trans (fr_X12_read_l16  _ (x1, 1, S3) _ h)
theorem fr_X12_read (S : St) {r0 : Int32 × St} (h : f_X12_read S = some r0) : Fr W_X12_read S r0.2 := by
  have F : Fr W_X12_read S S := Fr.rf
  unfold f_X12_read at h
  exact F.trans (fr_X12_read_b0  S h)
def W_X8_clear : List Nat × List Nat × List Nat × Bool := ([6, 7], [30], [], false)
theorem fr_X8_clear_b17 {rec17 : Int32 × St → Option (Int32 × St)} (v1 : Int32) (v2 : Int32) (hrec17 : ∀ (s : Int32 × St) (r : Int32 × St), rec17 s = some r → Fr W_X8_clear (s.2) r.2) (S : St) {r0 : Int32 × St} (h : f_X8_clear_b17 rec17 v1 v2 S = some r0) : Fr W_X8_clear S r0.2 := by
  have F : Fr W_X8_clear S S := Fr.rf
  unfold f_X8_clear_b17 at h
  rcases ite_or h with h | h
  · exact fr_end h F
  · obtain ⟨S4, e_, h⟩ := vlet_ex (chk_some h).2
    replace F := F.trans (Fr.sto (w := W_X8_clear) (k := 30) e_ rfl)
    exact F.trans (hrec17 (v2 + 1, S4) _ h)
theorem fr_X8_clear_l17 (v1 : Int32) : ∀ (n : Nat) (s : Int32 × St) (r : Int32 × St), f_X8_clear_l17 v1 n s = some r → Fr W_X8_clear (s.2) r.2 :=
  loop_sound (fun rec17 hrec17 s r h => fr_X8_clear_b17 v1 s.1 hrec17 s.2 h)
theorem fr_X8_clear_b0 (S : St) {r0 : Int32 × St} (h : f_X8_clear_b0 S = some r0) : Fr W_X8_clear S r0.2 := by
  have F : Fr W_X8_clear S S := Fr.rf
  unfold f_X8_clear_b0 at h
  obtain ⟨x1, _, h⟩ := vlet_ex h
  obtain ⟨S2, e_, h⟩ := vlet_ex h
  replace F := F.trans (Fr.pI (w := W_X8_clear) (k := 6) e_ rfl)
  obtain ⟨S3, e_, h⟩ := vlet_ex h
  replace F := F.trans (Fr.pI (w := W_X8_clear) (k := 7) e_ rfl)
  exact F.trans (fr_X8_clear_l17 x1 _ (0, S3) _ h)
theorem fr_X8_clear (S : St) {r0 : Int32 × St} (h : f_X8_clear S = some r0) : Fr W_X8_clear S r0.2 := by
  have F : Fr W_X8_clear S S := Fr.rf
  unfold f_X8_clear at h
  exact F.trans (fr_X8_clear_b0  S h)
def W_X11_plain : List Nat × List Nat × List Nat × Bool := ([6, 7], [30], [], false)
theorem fr_X11_plain_b0 (S : St) {r0 : Int32 × St} (h : f_X11_plain_b0 S = some r0) : Fr W_X11_plain S r0.2 := by
  have F : Fr W_X11_plain S S := Fr.rf
  unfold f_X11_plain_b0 at h
  obtain ⟨⟨r2, S1⟩, e_, h⟩ := bnd_some h
  replace F := F.trans ((fr_X8_clear _ e_).mono (w1 := W_X11_plain) rfl rfl rfl rfl)
  exact fr_end h F
theorem fr_X11_plain (S : St) {r0 : Int32 × St} (h : f_X11_plain S = some r0) : Fr W_X11_plain S r0.2 := by
  have F : Fr W_X11_plain S S := Fr.rf
  unfold f_X11_plain at h
  exact F.trans (fr_X11_plain_b0  S h)
def W_X12_plain : List Nat × List Nat × List Nat × Bool := ([28], [], [], false)
theorem fr_X12_plain_b0 (S : St) {r0 : Int32 × St} (h : f_X12_plain_b0 S = some r0) : Fr W_X12_plain S r0.2 := by
  have F : Fr W_X12_plain S S := Fr.rf
  unfold f_X12_plain_b0 at h
  obtain ⟨x1, _, h⟩ := vlet_ex h
  obtain ⟨S2, e_, h⟩ := vlet_ex h
  replace F := F.trans (Fr.pI (w := W_X12_plain) (k := 28) e_ rfl)
  exact fr_end h F
theorem fr_X12_plain (S : St) {r0 : Int32 × St} (h : f_X12_plain S = some r0) : Fr W_X12_plain S r0.2 := by
  have F : Fr W_X12_plain S S := Fr.rf
  unfold f_X12_plain at h
  exact F.trans (fr_X12_plain_b0  S h)
def W_X8_has : List Nat × List Nat × List Nat × Bool := ([], [], [], false)
theorem fr_X8_has_b0 (a1 : Int32) (S : St) {r0 : Int32 × St} (h : f_X8_has_b0 a1 S = some r0) : Fr W_X8_has S r0.2 := by
  have F : Fr W_X8_has S S := Fr.rf
  unfold f_X8_has_b0 at h
  obtain ⟨⟨r2, S1⟩, e_, h⟩ := bnd_some h
  replace F := F.trans ((fr_X11_isWithin a1 0 ((gI S 6) - 1) _ e_).mono (w1 := W_X8_has) rfl rfl rfl rfl)
  exact fr_end (chk_some h).2 F
theorem fr_X8_has (a1 : Int32) (S : St) {r0 : Int32 × St} (h : f_X8_has a1 S = some r0) : Fr W_X8_has S r0.2 := by
  have F : Fr W_X8_has S S := Fr.rf
  unfold f_X8_has at h
  exact F.trans (fr_X8_has_b0 a1 S h)
def W_X11_rule : List Nat × List Nat × List Nat × Bool := ([], [], [], false)
theorem fr_X11_rule_b37 (w0 : Int32) (S : St) {r0 : Int32 × St} (h : f_X11_rule_b37 w0 S = some r0) : Fr W_X11_rule S r0.2 := by
  have F : Fr W_X11_rule S S := Fr.rf
  unfold f_X11_rule_b37 at h
  exact fr_end h F
theorem fr_X11_rule_b34 (S : St) {r0 : Int32 × St} (h : f_X11_rule_b34 S = some r0) : Fr W_X11_rule S r0.2 := by
  have F : Fr W_X11_rule S S := Fr.rf
  unfold f_X11_rule_b34 at h
  exact F.trans (fr_X11_rule_b37 (-1001) S h)
theorem fr_X11_rule_b0 (a1 : Int32) (a2 : Int32) (S : St) {r0 : Int32 × St} (h : f_X11_rule_b0 a1 a2 S = some r0) : Fr W_X11_rule S r0.2 := by
  have F : Fr W_X11_rule S S := Fr.rf
  unfold f_X11_rule_b0 at h
  obtain ⟨⟨r2, S1⟩, e_, h⟩ := bnd_some h
  replace F := F.trans ((fr_X8_has a1 _ e_).mono (w1 := W_X11_rule) rfl rfl rfl rfl)
  rcases ite_or h with h | h
  · exact F.trans (fr_X11_rule_b34  S1 h)
  · obtain ⟨⟨r4, S3⟩, e_, h⟩ := bnd_some h
    replace F := F.trans ((fr_X11_isWithin a2 0 3 _ e_).mono (w1 := W_X11_rule) rfl rfl rfl rfl)
    rcases ite_or h with h | h
    · exact F.trans (fr_X11_rule_b34  S3 h)
    · obtain ⟨hn5, h⟩ := chk_some h
      replace h := (chk_some h).2
      exact F.trans (fr_X11_rule_b37 (rd S3 (26 + Int32.toNatClampNeg a2) a1) S3 h)
theorem fr_X11_rule (a1 : Int32) (a2 : Int32) (S : St) {r0 : Int32 × St} (h : f_X11_rule a1 a2 S = some r0) : Fr W_X11_rule S r0.2 := by
  have F : Fr W_X11_rule S S := Fr.rf
  unfold f_X11_rule at h
  exact F.trans (fr_X11_rule_b0 a1 a2 S h)
def W_X12_rule : List Nat × List Nat × List Nat × Bool := ([], [], [], false)
theorem fr_X12_rule_b78 (w0 : Int32) (S : St) {r0 : Int32 × St} (h : f_X12_rule_b78 w0 S = some r0) : Fr W_X12_rule S r0.2 := by
  have F : Fr W_X12_rule S S := Fr.rf
  unfold f_X12_rule_b78 at h
  exact fr_end h F
theorem fr_X12_rule_b0 (a1 : Int32) (a2 : Int32) (S : St) {r0 : Int32 × St} (h : f_X12_rule_b0 a1 a2 S = some r0) : Fr W_X12_rule S r0.2 := by
  have F : Fr W_X12_rule S S := Fr.rf
  unfold f_X12_rule_b0 at h
  obtain ⟨⟨r2, S1⟩, e_, h⟩ := bnd_some h
  replace F := F.trans ((fr_X12_in (Int32.toInt64 a1) 0 (Int32.toInt64 ((gI S 28) - 1)) _ e_).mono (w1 := W_X12_rule) rfl rfl rfl rfl)
  rcases ite_or h with h | h
  · exact fr_end h F
  · rcases ite_or h with h | h
    · replace h := (chk_some h).2
      exact F.trans (fr_X12_rule_b78 (rd S1 60 a1) S1 h)
    · rcases ite_or h with h | h
      · replace h := (chk_some h).2
        exact F.trans (fr_X12_rule_b78 (rd S1 61 a1) S1 h)
      · rcases ite_or h with h | h
        · replace h := (chk_some h).2
          exact F.trans (fr_X12_rule_b78 (rd S1 62 a1) S1 h)
        · rcases ite_or h with h | h
          · replace h := (chk_some h).2
            exact F.trans (fr_X12_rule_b78 (rd S1 63 a1) S1 h)
          · exact F.trans (fr_X12_rule_b78 (-1001) S1 h)
theorem fr_X12_rule (a1 : Int32) (a2 : Int32) (S : St) {r0 : Int32 × St} (h : f_X12_rule a1 a2 S = some r0) : Fr W_X12_rule S r0.2 := by
  have F : Fr W_X12_rule S S := Fr.rf
  unfold f_X12_rule at h
  exact F.trans (fr_X12_rule_b0 a1 a2 S h)
def W_X3_has : List Nat × List Nat × List Nat × Bool := ([], [], [], false)
theorem fr_X3_has_b0 (a1 : Int32) (S : St) {r0 : Int32 × St} (h : f_X3_has_b0 a1 S = some r0) : Fr W_X3_has S r0.2 := by
  have F : Fr W_X3_has S S := Fr.rf
  unfold f_X3_has_b0 at h
  obtain ⟨⟨r2, S1⟩, e_, h⟩ := bnd_some h
  replace F := F.trans ((fr_X11_isWithin a1 0 12 _ e_).mono (w1 := W_X3_has) rfl rfl rfl rfl)
  exact fr_end (chk_some h).2 F
theorem fr_X3_has (a1 : Int32) (S : St) {r0 : Int32 × St} (h : f_X3_has a1 S = some r0) : Fr W_X3_has S r0.2 := by
  have F : Fr W_X3_has S S := Fr.rf
  unfold f_X3_has at h
  exact F.trans (fr_X3_has_b0 a1 S h)
def W_X8_countingFor : List Nat × List Nat × List Nat × Bool := ([], [], [], false)
theorem fr_X8_countingFor_b0 (a1 : Int32) (a2 : Int32) (S : St) {r0 : Int32 × St} (h : f_X8_countingFor_b0 a1 a2 S = some r0) : Fr W_X8_countingFor S r0.2 := by
  have F : Fr W_X8_countingFor S S := Fr.rf
  unfold f_X8_countingFor_b0 at h
  replace h := (chk_some h).2
  exact fr_end h F
theorem fr_X8_countingFor (a1 : Int32) (a2 : Int32) (S : St) {r0 : Int32 × St} (h : f_X8_countingFor a1 a2 S = some r0) : Fr W_X8_countingFor S r0.2 := by
  have F : Fr W_X8_countingFor S S := Fr.rf
  unfold f_X8_countingFor at h
  exact F.trans (fr_X8_countingFor_b0 a1 a2 S h)
def W_X8_numberFor : List Nat × List Nat × List Nat × Bool := ([], [], [], false)
theorem fr_X8_numberFor_b28 (w0 : Int32) (S : St) {r0 : Int32 × St} (h : f_X8_numberFor_b28 w0 S = some r0) : Fr W_X8_numberFor S r0.2 := by
  have F : Fr W_X8_numberFor S S := Fr.rf
  unfold f_X8_numberFor_b28 at h
  exact fr_end h F
theorem fr_X8_numberFor_b0 (a1 : Int32) (a2 : Int32) (S : St) {r0 : Int32 × St} (h : f_X8_numberFor_b0 a1 a2 S = some r0) : Fr W_X8_numberFor S r0.2 := by
  have F : Fr W_X8_numberFor S S := Fr.rf
  unfold f_X8_numberFor_b0 at h
  obtain ⟨⟨r2, S1⟩, e_, h⟩ := bnd_some h
  replace F := F.trans ((fr_X8_countingFor a1 a2 _ e_).mono (w1 := W_X8_numberFor) rfl rfl rfl rfl)
  rcases ite_or h with h | h
  · replace h := (chk_some h).2
    exact F.trans (fr_X8_numberFor_b28 (tbr 0 a2) S1 h)
  · replace h := (chk_some h).2
    exact F.trans (fr_X8_numberFor_b28 (rd S1 28 r2) S1 h)
theorem fr_X8_numberFor (a1 : Int32) (a2 : Int32) (S : St) {r0 : Int32 × St} (h : f_X8_numberFor a1 a2 S = some r0) : Fr W_X8_numberFor S r0.2 := by
  have F : Fr W_X8_numberFor S S := Fr.rf
  unfold f_X8_numberFor at h
  exact F.trans (fr_X8_numberFor_b0 a1 a2 S h)
def W_X11_value : List Nat × List Nat × List Nat × Bool := ([], [], [], false)
theorem fr_X11_value_b29 (w0 : Int32) (S : St) {r0 : Int32 × St} (h : f_X11_value_b29 w0 S = some r0) : Fr W_X11_value S r0.2 := by
  have F : Fr W_X11_value S S := Fr.rf
  unfold f_X11_value_b29 at h
  exact fr_end h F
theorem fr_X11_value_b26 (S : St) {r0 : Int32 × St} (h : f_X11_value_b26 S = some r0) : Fr W_X11_value S r0.2 := by
  have F : Fr W_X11_value S S := Fr.rf
  unfold f_X11_value_b26 at h
  exact F.trans (fr_X11_value_b29 (-1001) S h)
theorem fr_X11_value_b0 (a1 : Int32) (a2 : Int32) (S : St) {r0 : Int32 × St} (h : f_X11_value_b0 a1 a2 S = some r0) : Fr W_X11_value S r0.2 := by
  have F : Fr W_X11_value S S := Fr.rf
  unfold f_X11_value_b0 at h
  obtain ⟨⟨r2, S1⟩, e_, h⟩ := bnd_some h
  replace F := F.trans ((fr_X11_isVoice a1 _ e_).mono (w1 := W_X11_value) rfl rfl rfl rfl)
  rcases ite_or h with h | h
  · exact F.trans (fr_X11_value_b26  S1 h)
  · obtain ⟨⟨r4, S3⟩, e_, h⟩ := bnd_some h
    replace F := F.trans ((fr_X3_has a2 _ e_).mono (w1 := W_X11_value) rfl rfl rfl rfl)
    rcases ite_or h with h | h
    · exact F.trans (fr_X11_value_b26  S3 h)
    · obtain ⟨⟨r6, S5⟩, e_, h⟩ := bnd_some h
      replace F := F.trans ((fr_X8_numberFor a1 a2 _ e_).mono (w1 := W_X11_value) rfl rfl rfl rfl)
      exact F.trans (fr_X11_value_b29 r6 S5 h)
theorem fr_X11_value (a1 : Int32) (a2 : Int32) (S : St) {r0 : Int32 × St} (h : f_X11_value a1 a2 S = some r0) : Fr W_X11_value S r0.2 := by
  have F : Fr W_X11_value S S := Fr.rf
  unfold f_X11_value at h
  exact F.trans (fr_X11_value_b0 a1 a2 S h)
def W_X12_counts : List Nat × List Nat × List Nat × Bool := ([], [], [], false)
theorem fr_X12_counts_b86 {rec5 : Int32 × Int32 × St → Option (Int32 × St)} (v1 : Int32) (v2 : Int32) (v4 : Int32) (w0 : Int32) (hrec5 : ∀ (s : Int32 × Int32 × St) (r : Int32 × St), rec5 s = some r → Fr W_X12_counts (s.2.2) r.2) (S : St) {r0 : Int32 × St} (h : f_X12_counts_b86 rec5 v1 v2 v4 w0 S = some r0) : Fr W_X12_counts S r0.2 := by
  have F : Fr W_X12_counts S S := Fr.rf
  unfold f_X12_counts_b86 at h
  exact F.trans (hrec5 (w0, v4 + 1, S) _ h)
theorem fr_X12_counts_b85 {rec5 : Int32 × Int32 × St → Option (Int32 × St)} (v1 : Int32) (v2 : Int32) (v3 : Int32) (v4 : Int32) (hrec5 : ∀ (s : Int32 × Int32 × St) (r : Int32 × St), rec5 s = some r → Fr W_X12_counts (s.2.2) r.2) (S : St) {r0 : Int32 × St} (h : f_X12_counts_b85 rec5 v1 v2 v3 v4 S = some r0) : Fr W_X12_counts S r0.2 := by
  have F : Fr W_X12_counts S S := Fr.rf
  unfold f_X12_counts_b85 at h
  exact F.trans (fr_X12_counts_b86 v1 v2 v4 v3 hrec5 S h)
theorem fr_X12_counts_b80 {rec5 : Int32 × Int32 × St → Option (Int32 × St)} (v1 : Int32) (v2 : Int32) (v4 : Int32) (hrec5 : ∀ (s : Int32 × Int32 × St) (r : Int32 × St), rec5 s = some r → Fr W_X12_counts (s.2.2) r.2) (S : St) {r0 : Int32 × St} (h : f_X12_counts_b80 rec5 v1 v2 v4 S = some r0) : Fr W_X12_counts S r0.2 := by
  have F : Fr W_X12_counts S S := Fr.rf
  unfold f_X12_counts_b80 at h
  exact F.trans (fr_X12_counts_b86 v1 v2 v4 v4 hrec5 S h)
theorem fr_X12_counts_b52 {rec5 : Int32 × Int32 × St → Option (Int32 × St)} (v1 : Int32) (v2 : Int32) (v3 : Int32) (v4 : Int32) (w0 : Int32) (hrec5 : ∀ (s : Int32 × Int32 × St) (r : Int32 × St), rec5 s = some r → Fr W_X12_counts (s.2.2) r.2) (S : St) {r0 : Int32 × St} (h : f_X12_counts_b52 rec5 v1 v2 v3 v4 w0 S = some r0) : Fr W_X12_counts S r0.2 := by
  have F : Fr W_X12_counts S S := Fr.rf
  unfold f_X12_counts_b52 at h
  rcases ite_or h with h | h
  · exact F.trans (fr_X12_counts_b85 v1 v2 v3 v4 hrec5 S h)
  · rcases ite_or h with h | h
    · exact F.trans (fr_X12_counts_b80 v1 v2 v4 hrec5 S h)
    · replace h := (chk_some h).2
      replace h := (chk_some h).2
      rcases ite_or h with h | h
      · exact F.trans (fr_X12_counts_b85 v1 v2 v3 v4 hrec5 S h)
      · exact F.trans (fr_X12_counts_b80 v1 v2 v4 hrec5 S h)
theorem fr_X12_counts_b51 {rec5 : Int32 × Int32 × St → Option (Int32 × St)} (v1 : Int32) (v2 : Int32) (v3 : Int32) (v4 : Int32) (hrec5 : ∀ (s : Int32 × Int32 × St) (r : Int32 × St), rec5 s = some r → Fr W_X12_counts (s.2.2) r.2) (S : St) {r0 : Int32 × St} (h : f_X12_counts_b51 rec5 v1 v2 v3 v4 S = some r0) : Fr W_X12_counts S r0.2 := by
  have F : Fr W_X12_counts S S := Fr.rf
  unfold f_X12_counts_b51 at h
  exact F.trans (fr_X12_counts_b52 v1 v2 v3 v4 0 hrec5 S h)
theorem fr_X12_counts_b47 {rec5 : Int32 × Int32 × St → Option (Int32 × St)} (v1 : Int32) (v2 : Int32) (v3 : Int32) (v4 : Int32) (hrec5 : ∀ (s : Int32 × Int32 × St) (r : Int32 × St), rec5 s = some r → Fr W_X12_counts (s.2.2) r.2) (S : St) {r0 : Int32 × St} (h : f_X12_counts_b47 rec5 v1 v2 v3 v4 S = some r0) : Fr W_X12_counts S r0.2 := by
  have F : Fr W_X12_counts S S := Fr.rf
  unfold f_X12_counts_b47 at h
  exact F.trans (fr_X12_counts_b52 v1 v2 v3 v4 1 hrec5 S h)
theorem fr_X12_counts_b5 {rec5 : Int32 × Int32 × St → Option (Int32 × St)} (v1 : Int32) (v2 : Int32) (v3 : Int32) (v4 : Int32) (hrec5 : ∀ (s : Int32 × Int32 × St) (r : Int32 × St), rec5 s = some r → Fr W_X12_counts (s.2.2) r.2) (S : St) {r0 : Int32 × St} (h : f_X12_counts_b5 rec5 v1 v2 v3 v4 S = some r0) : Fr W_X12_counts S r0.2 := by
  have F : Fr W_X12_counts S S := Fr.rf
  unfold f_X12_counts_b5 at h
  rcases ite_or h with h | h
  · exact fr_end h F
  · replace h := (chk_some h).2
    rcases ite_or h with h | h
    · replace h := (chk_some h).2
      rcases ite_or h with h | h
      · exact F.trans (fr_X12_counts_b47 v1 v2 v3 v4 hrec5 S h)
      · replace h := (chk_some h).2
        rcases ite_or h with h | h
        · exact F.trans (fr_X12_counts_b47 v1 v2 v3 v4 hrec5 S h)
        · exact F.trans (fr_X12_counts_b51 v1 v2 v3 v4 hrec5 S h)
    · exact F.trans (fr_X12_counts_b51 v1 v2 v3 v4 hrec5 S h)
theorem fr_X12_counts_l5 (v1 : Int32) (v2 : Int32) : ∀ (n : Nat) (s : Int32 × Int32 × St) (r : Int32 × St), f_X12_counts_l5 v1 v2 n s = some r → Fr W_X12_counts (s.2.2) r.2 :=
  loop_sound (fun rec5 hrec5 s r h => fr_X12_counts_b5 v1 v2 s.1 s.2.1 hrec5 s.2.2 h)
theorem fr_X12_counts_b0 (a1 : Int32) (a2 : Int32) (S : St) {r0 : Int32 × St} (h : f_X12_counts_b0 a1 a2 S = some r0) : Fr W_X12_counts S r0.2 := by
  have F : Fr W_X12_counts S S := Fr.rf
  unfold f_X12_counts_b0 at h
  exact F.trans (fr_X12_counts_l5 a1 a2 _ ((-1), 0, S) _ h)
theorem fr_X12_counts (a1 : Int32) (a2 : Int32) (S : St) {r0 : Int32 × St} (h : f_X12_counts a1 a2 S = some r0) : Fr W_X12_counts S r0.2 := by
  have F : Fr W_X12_counts S S := Fr.rf
  unfold f_X12_counts at h
  exact F.trans (fr_X12_counts_b0 a1 a2 S h)
def W_X12_usual : List Nat × List Nat × List Nat × Bool := ([], [], [], false)
theorem fr_X12_usual_b96 (S : St) {r0 : Int32 × St} (h : f_X12_usual_b96 S = some r0) : Fr W_X12_usual S r0.2 := by
  have F : Fr W_X12_usual S S := Fr.rf
  unfold f_X12_usual_b96 at h
  exact fr_end h F
theorem fr_X12_usual_b0 (a1 : Int32) (S : St) {r0 : Int32 × St} (h : f_X12_usual_b0 a1 S = some r0) : Fr W_X12_usual S r0.2 := by
  have F : Fr W_X12_usual S S := Fr.rf
  unfold f_X12_usual_b0 at h
  rcases ite_or h with h | h
  · exact fr_end h F
  rcases ite_or h with h | h
  · exact fr_end h F
  rcases ite_or h with h | h
  · exact fr_end h F
  rcases ite_or h with h | h
  · exact fr_end h F
  rcases ite_or h with h | h
  · exact fr_end h F
  rcases ite_or h with h | h
  · exact fr_end h F
  rcases ite_or h with h | h
  · exact fr_end h F
  rcases ite_or h with h | h
  · exact fr_end h F
  rcases ite_or h with h | h
  · exact F.trans (fr_X12_usual_b96  S h)
  rcases ite_or h with h | h
  · exact fr_end h F
  rcases ite_or h with h | h
  · exact fr_end h F
  rcases ite_or h with h | h
  · exact fr_end h F
  exact F.trans (fr_X12_usual_b96  S h)
theorem fr_X12_usual (a1 : Int32) (S : St) {r0 : Int32 × St} (h : f_X12_usual a1 S = some r0) : Fr W_X12_usual S r0.2 := by
  have F : Fr W_X12_usual S S := Fr.rf
  unfold f_X12_usual at h
  exact F.trans (fr_X12_usual_b0 a1 S h)
def W_X12_number : List Nat × List Nat × List Nat × Bool := ([], [], [], false)
theorem fr_X12_number_b25 (w0 : Int32) (S : St) {r0 : Int32 × St} (h : f_X12_number_b25 w0 S = some r0) : Fr W_X12_number S r0.2 := by
  have F : Fr W_X12_number S S := Fr.rf
  unfold f_X12_number_b25 at h
  exact fr_end h F
theorem fr_X12_number_b0 (a1 : Int32) (a2 : Int32) (S : St) {r0 : Int32 × St} (h : f_X12_number_b0 a1 a2 S = some r0) : Fr W_X12_number S r0.2 := by
  have F : Fr W_X12_number S S := Fr.rf
  unfold f_X12_number_b0 at h
  obtain ⟨⟨r2, S1⟩, e_, h⟩ := bnd_some h
  replace F := F.trans ((fr_X12_counts a1 a2 _ e_).mono (w1 := W_X12_number) rfl rfl rfl rfl)
  rcases ite_or h with h | h
  · obtain ⟨⟨r4, S3⟩, e_, h⟩ := bnd_some h
    replace F := F.trans ((fr_X12_usual a2 _ e_).mono (w1 := W_X12_number) rfl rfl rfl rfl)
    exact F.trans (fr_X12_number_b25 r4 S3 h)
  · replace h := (chk_some h).2
    exact F.trans (fr_X12_number_b25 (rd S1 62 r2) S1 h)
theorem fr_X12_number (a1 : Int32) (a2 : Int32) (S : St) {r0 : Int32 × St} (h : f_X12_number a1 a2 S = some r0) : Fr W_X12_number S r0.2 := by
  have F : Fr W_X12_number S S := Fr.rf
  unfold f_X12_number at h
  exact F.trans (fr_X12_number_b0 a1 a2 S h)
def W_X12_value : List Nat × List Nat × List Nat × Bool := ([], [], [], false)
theorem fr_X12_value_b36 (w0 : Int32) (S : St) {r0 : Int32 × St} (h : f_X12_value_b36 w0 S = some r0) : Fr W_X12_value S r0.2 := by
  have F : Fr W_X12_value S S := Fr.rf
  unfold f_X12_value_b36 at h
  exact fr_end h F
theorem fr_X12_value_b33 (S : St) {r0 : Int32 × St} (h : f_X12_value_b33 S = some r0) : Fr W_X12_value S r0.2 := by
  have F : Fr W_X12_value S S := Fr.rf
  unfold f_X12_value_b33 at h
  exact F.trans (fr_X12_value_b36 (-1001) S h)
theorem fr_X12_value_b0 (a1 : Int32) (a2 : Int32) (S : St) {r0 : Int32 × St} (h : f_X12_value_b0 a1 a2 S = some r0) : Fr W_X12_value S r0.2 := by
  have F : Fr W_X12_value S S := Fr.rf
  unfold f_X12_value_b0 at h
  obtain ⟨⟨r2, S1⟩, e_, h⟩ := bnd_some h
  replace F := F.trans ((fr_X12_in (Int32.toInt64 a1) 0 3 _ e_).mono (w1 := W_X12_value) rfl rfl rfl rfl)
  rcases ite_or h with h | h
  · exact F.trans (fr_X12_value_b33  S1 h)
  · obtain ⟨⟨r4, S3⟩, e_, h⟩ := bnd_some h
    replace F := F.trans ((fr_X12_in (Int32.toInt64 a2) 0 12 _ e_).mono (w1 := W_X12_value) rfl rfl rfl rfl)
    rcases ite_or h with h | h
    · exact F.trans (fr_X12_value_b33  S3 h)
    · obtain ⟨⟨r6, S5⟩, e_, h⟩ := bnd_some h
      replace F := F.trans ((fr_X12_number a1 a2 _ e_).mono (w1 := W_X12_value) rfl rfl rfl rfl)
      exact F.trans (fr_X12_value_b36 r6 S5 h)
theorem fr_X12_value (a1 : Int32) (a2 : Int32) (S : St) {r0 : Int32 × St} (h : f_X12_value a1 a2 S = some r0) : Fr W_X12_value S r0.2 := by
  have F : Fr W_X12_value S S := Fr.rf
  unfold f_X12_value at h
  exact F.trans (fr_X12_value_b0 a1 a2 S h)
def W_X11_why : List Nat × List Nat × List Nat × Bool := ([], [], [], false)
theorem fr_X11_why_b29 (w0 : Int32) (S : St) {r0 : Int32 × St} (h : f_X11_why_b29 w0 S = some r0) : Fr W_X11_why S r0.2 := by
  have F : Fr W_X11_why S S := Fr.rf
  unfold f_X11_why_b29 at h
  exact fr_end h F
theorem fr_X11_why_b26 (S : St) {r0 : Int32 × St} (h : f_X11_why_b26 S = some r0) : Fr W_X11_why S r0.2 := by
  have F : Fr W_X11_why S S := Fr.rf
  unfold f_X11_why_b26 at h
  exact F.trans (fr_X11_why_b29 (-1001) S h)
theorem fr_X11_why_b0 (a1 : Int32) (a2 : Int32) (S : St) {r0 : Int32 × St} (h : f_X11_why_b0 a1 a2 S = some r0) : Fr W_X11_why S r0.2 := by
  have F : Fr W_X11_why S S := Fr.rf
  unfold f_X11_why_b0 at h
  obtain ⟨⟨r2, S1⟩, e_, h⟩ := bnd_some h
  replace F := F.trans ((fr_X11_isVoice a1 _ e_).mono (w1 := W_X11_why) rfl rfl rfl rfl)
  rcases ite_or h with h | h
  · exact F.trans (fr_X11_why_b26  S1 h)
  · obtain ⟨⟨r4, S3⟩, e_, h⟩ := bnd_some h
    replace F := F.trans ((fr_X3_has a2 _ e_).mono (w1 := W_X11_why) rfl rfl rfl rfl)
    rcases ite_or h with h | h
    · exact F.trans (fr_X11_why_b26  S3 h)
    · obtain ⟨⟨r6, S5⟩, e_, h⟩ := bnd_some h
      replace F := F.trans ((fr_X8_countingFor a1 a2 _ e_).mono (w1 := W_X11_why) rfl rfl rfl rfl)
      exact F.trans (fr_X11_why_b29 r6 S5 h)
theorem fr_X11_why (a1 : Int32) (a2 : Int32) (S : St) {r0 : Int32 × St} (h : f_X11_why a1 a2 S = some r0) : Fr W_X11_why S r0.2 := by
  have F : Fr W_X11_why S S := Fr.rf
  unfold f_X11_why at h
  exact F.trans (fr_X11_why_b0 a1 a2 S h)
def W_X12_why : List Nat × List Nat × List Nat × Bool := ([], [], [], false)
theorem fr_X12_why_b36 (w0 : Int32) (S : St) {r0 : Int32 × St} (h : f_X12_why_b36 w0 S = some r0) : Fr W_X12_why S r0.2 := by
  have F : Fr W_X12_why S S := Fr.rf
  unfold f_X12_why_b36 at h
  exact fr_end h F
theorem fr_X12_why_b33 (S : St) {r0 : Int32 × St} (h : f_X12_why_b33 S = some r0) : Fr W_X12_why S r0.2 := by
  have F : Fr W_X12_why S S := Fr.rf
  unfold f_X12_why_b33 at h
  exact F.trans (fr_X12_why_b36 (-1001) S h)
theorem fr_X12_why_b0 (a1 : Int32) (a2 : Int32) (S : St) {r0 : Int32 × St} (h : f_X12_why_b0 a1 a2 S = some r0) : Fr W_X12_why S r0.2 := by
  have F : Fr W_X12_why S S := Fr.rf
  unfold f_X12_why_b0 at h
  obtain ⟨⟨r2, S1⟩, e_, h⟩ := bnd_some h
  replace F := F.trans ((fr_X12_in (Int32.toInt64 a1) 0 3 _ e_).mono (w1 := W_X12_why) rfl rfl rfl rfl)
  rcases ite_or h with h | h
  · exact F.trans (fr_X12_why_b33  S1 h)
  · obtain ⟨⟨r4, S3⟩, e_, h⟩ := bnd_some h
    replace F := F.trans ((fr_X12_in (Int32.toInt64 a2) 0 12 _ e_).mono (w1 := W_X12_why) rfl rfl rfl rfl)
    rcases ite_or h with h | h
    · exact F.trans (fr_X12_why_b33  S3 h)
    · obtain ⟨⟨r6, S5⟩, e_, h⟩ := bnd_some h
      replace F := F.trans ((fr_X12_counts a1 a2 _ e_).mono (w1 := W_X12_why) rfl rfl rfl rfl)
      exact F.trans (fr_X12_why_b36 r6 S5 h)
theorem fr_X12_why (a1 : Int32) (a2 : Int32) (S : St) {r0 : Int32 × St} (h : f_X12_why a1 a2 S = some r0) : Fr W_X12_why S r0.2 := by
  have F : Fr W_X12_why S S := Fr.rf
  unfold f_X12_why at h
  exact F.trans (fr_X12_why_b0 a1 a2 S h)
def W_X1_clear : List Nat × List Nat × List Nat × Bool := ([19, 20], [], [], false)
theorem fr_X1_clear_b0 (S : St) {r0 : Unit × St} (h : f_X1_clear_b0 S = some r0) : Fr W_X1_clear S r0.2 := by
  have F : Fr W_X1_clear S S := Fr.rf
  unfold f_X1_clear_b0 at h
  obtain ⟨S1, e_, h⟩ := vlet_ex h
  replace F := F.trans (Fr.pI (w := W_X1_clear) (k := 19) e_ rfl)
  obtain ⟨S2, e_, h⟩ := vlet_ex h
  replace F := F.trans (Fr.pI (w := W_X1_clear) (k := 20) e_ rfl)
  exact fr_end h F
theorem fr_X1_clear (S : St) {r0 : Unit × St} (h : f_X1_clear S = some r0) : Fr W_X1_clear S r0.2 := by
  have F : Fr W_X1_clear S S := Fr.rf
  unfold f_X1_clear at h
  exact F.trans (fr_X1_clear_b0  S h)
def W_X6_takeNote : List Nat × List Nat × List Nat × Bool := ([12, 13, 14, 15], [], [], false)
theorem fr_X6_takeNote_b0 (a2 : Int32) (S : St) {r0 : Unit × St} (h : f_X6_takeNote_b0 a2 S = some r0) : Fr W_X6_takeNote S r0.2 := by
  have F : Fr W_X6_takeNote S S := Fr.rf
  unfold f_X6_takeNote_b0 at h
  obtain ⟨S1, e_, h⟩ := vlet_ex h
  replace F := F.trans (Fr.pI (w := W_X6_takeNote) (k := 12) e_ rfl)
  replace h := (chk_some h).2
  obtain ⟨S2, e_, h⟩ := vlet_ex h
  replace F := F.trans (Fr.pI (w := W_X6_takeNote) (k := 13) e_ rfl)
  replace h := (chk_some h).2
  obtain ⟨S3, e_, h⟩ := vlet_ex h
  replace F := F.trans (Fr.pI (w := W_X6_takeNote) (k := 14) e_ rfl)
  replace h := (chk_some h).2
  obtain ⟨S4, e_, h⟩ := vlet_ex h
  replace F := F.trans (Fr.pI (w := W_X6_takeNote) (k := 15) e_ rfl)
  exact fr_end h F
theorem fr_X6_takeNote (a2 : Int32) (S : St) {r0 : Unit × St} (h : f_X6_takeNote a2 S = some r0) : Fr W_X6_takeNote S r0.2 := by
  have F : Fr W_X6_takeNote S S := Fr.rf
  unfold f_X6_takeNote at h
  exact F.trans (fr_X6_takeNote_b0 a2 S h)
def W_X6_isMarked : List Nat × List Nat × List Nat × Bool := ([], [], [], false)
theorem fr_X6_isMarked_b14 (w0 : Int32) (S : St) {r0 : Int32 × St} (h : f_X6_isMarked_b14 w0 S = some r0) : Fr W_X6_isMarked S r0.2 := by
  have F : Fr W_X6_isMarked S S := Fr.rf
  unfold f_X6_isMarked_b14 at h
  exact fr_end (chk_some h).2 F
theorem fr_X6_isMarked_b0 (a1 : Int32) (S : St) {r0 : Int32 × St} (h : f_X6_isMarked_b0 a1 S = some r0) : Fr W_X6_isMarked S r0.2 := by
  have F : Fr W_X6_isMarked S S := Fr.rf
  unfold f_X6_isMarked_b0 at h
  rcases ite_or h with h | h
  · exact F.trans (fr_X6_isMarked_b14 0 S h)
  · exact F.trans (fr_X6_isMarked_b14 1 S h)
theorem fr_X6_isMarked (a1 : Int32) (S : St) {r0 : Int32 × St} (h : f_X6_isMarked a1 S = some r0) : Fr W_X6_isMarked S r0.2 := by
  have F : Fr W_X6_isMarked S S := Fr.rf
  unfold f_X6_isMarked at h
  exact F.trans (fr_X6_isMarked_b0 a1 S h)
def W_X6_longOf : List Nat × List Nat × List Nat × Bool := ([], [], [], false)
theorem fr_X6_longOf_b25 (v1 : Int32) (w0 : Int32) (S : St) {r0 : Int32 × St} (h : f_X6_longOf_b25 v1 w0 S = some r0) : Fr W_X6_longOf S r0.2 := by
  have F : Fr W_X6_longOf S S := Fr.rf
  unfold f_X6_longOf_b25 at h
  obtain ⟨⟨r6, S5⟩, e_, h⟩ := bnd_some h
  replace F := F.trans ((fr_X8_numberFor (gI S 13) w0 _ e_).mono (w1 := W_X6_longOf) rfl rfl rfl rfl)
  obtain ⟨⟨r8, S7⟩, e_, h⟩ := bnd_some h
  replace F := F.trans ((fr_X8_numberFor (gI S5 13) 3 _ e_).mono (w1 := W_X6_longOf) rfl rfl rfl rfl)
  obtain ⟨x9, _, h⟩ := vlet_ex h
  replace h := (chk_some h).2
  exact fr_end h F
theorem fr_X6_longOf_b0 (a1 : Int32) (S : St) {r0 : Int32 × St} (h : f_X6_longOf_b0 a1 S = some r0) : Fr W_X6_longOf S r0.2 := by
  have F : Fr W_X6_longOf S S := Fr.rf
  unfold f_X6_longOf_b0 at h
  obtain ⟨⟨r2, S1⟩, e_, h⟩ := bnd_some h
  replace F := F.trans ((fr_X6_isMarked 1 _ e_).mono (w1 := W_X6_longOf) rfl rfl rfl rfl)
  rcases ite_or h with h | h
  · obtain ⟨⟨r4, S3⟩, e_, h⟩ := bnd_some h
    replace F := F.trans ((fr_X6_isMarked 2 _ e_).mono (w1 := W_X6_longOf) rfl rfl rfl rfl)
    rcases ite_or h with h | h
    · exact F.trans (fr_X6_longOf_b25 a1 1 S3 h)
    · exact F.trans (fr_X6_longOf_b25 a1 2 S3 h)
  · exact F.trans (fr_X6_longOf_b25 a1 0 S1 h)
theorem fr_X6_longOf (a1 : Int32) (S : St) {r0 : Int32 × St} (h : f_X6_longOf a1 S = some r0) : Fr W_X6_longOf S r0.2 := by
  have F : Fr W_X6_longOf S S := Fr.rf
  unfold f_X6_longOf at h
  exact F.trans (fr_X6_longOf_b0 a1 S h)
def W_X9_isMultiple : List Nat × List Nat × List Nat × Bool := ([], [], [], false)
theorem fr_X9_isMultiple_b15 (w0 : Int32) (S : St) {r0 : Int32 × St} (h : f_X9_isMultiple_b15 w0 S = some r0) : Fr W_X9_isMultiple S r0.2 := by
  have F : Fr W_X9_isMultiple S S := Fr.rf
  unfold f_X9_isMultiple_b15 at h
  exact fr_end (chk_some h).2 F
theorem fr_X9_isMultiple_b14 (S : St) {r0 : Int32 × St} (h : f_X9_isMultiple_b14 S = some r0) : Fr W_X9_isMultiple S r0.2 := by
  have F : Fr W_X9_isMultiple S S := Fr.rf
  unfold f_X9_isMultiple_b14 at h
  exact F.trans (fr_X9_isMultiple_b15 0 S h)
theorem fr_X9_isMultiple_b0 (a1 : Int32) (a2 : Int32) (S : St) {r0 : Int32 × St} (h : f_X9_isMultiple_b0 a1 a2 S = some r0) : Fr W_X9_isMultiple S r0.2 := by
  have F : Fr W_X9_isMultiple S S := Fr.rf
  unfold f_X9_isMultiple_b0 at h
  rcases ite_or h with h | h
  · exact F.trans (fr_X9_isMultiple_b14  S h)
  · replace h := (chk_some h).2
    rcases ite_or h with h | h
    · exact F.trans (fr_X9_isMultiple_b15 1 S h)
    · exact F.trans (fr_X9_isMultiple_b14  S h)
theorem fr_X9_isMultiple (a1 : Int32) (a2 : Int32) (S : St) {r0 : Int32 × St} (h : f_X9_isMultiple a1 a2 S = some r0) : Fr W_X9_isMultiple S r0.2 := by
  have F : Fr W_X9_isMultiple S S := Fr.rf
  unfold f_X9_isMultiple at h
  exact F.trans (fr_X9_isMultiple_b0 a1 a2 S h)
def W_X9_beginsBar : List Nat × List Nat × List Nat × Bool := ([], [], [], false)
theorem fr_X9_beginsBar_b0 (a1 : Int32) (S : St) {r0 : Int32 × St} (h : f_X9_beginsBar_b0 a1 S = some r0) : Fr W_X9_beginsBar S r0.2 := by
  have F : Fr W_X9_beginsBar S S := Fr.rf
  unfold f_X9_beginsBar_b0 at h
  obtain ⟨⟨r2, S1⟩, e_, h⟩ := bnd_some h
  replace F := F.trans ((fr_X9_isMultiple a1 ((gI S 0) * (gI S 1)) _ e_).mono (w1 := W_X9_beginsBar) rfl rfl rfl rfl)
  exact fr_end (chk_some h).2 F
theorem fr_X9_beginsBar (a1 : Int32) (S : St) {r0 : Int32 × St} (h : f_X9_beginsBar a1 S = some r0) : Fr W_X9_beginsBar S r0.2 := by
  have F : Fr W_X9_beginsBar S S := Fr.rf
  unfold f_X9_beginsBar at h
  exact F.trans (fr_X9_beginsBar_b0 a1 S h)
def W_X9_beginsBeat : List Nat × List Nat × List Nat × Bool := ([], [], [], false)
theorem fr_X9_beginsBeat_b0 (a1 : Int32) (S : St) {r0 : Int32 × St} (h : f_X9_beginsBeat_b0 a1 S = some r0) : Fr W_X9_beginsBeat S r0.2 := by
  have F : Fr W_X9_beginsBeat S S := Fr.rf
  unfold f_X9_beginsBeat_b0 at h
  obtain ⟨⟨r2, S1⟩, e_, h⟩ := bnd_some h
  replace F := F.trans ((fr_X9_isMultiple a1 (gI S 1) _ e_).mono (w1 := W_X9_beginsBeat) rfl rfl rfl rfl)
  exact fr_end (chk_some h).2 F
theorem fr_X9_beginsBeat (a1 : Int32) (S : St) {r0 : Int32 × St} (h : f_X9_beginsBeat a1 S = some r0) : Fr W_X9_beginsBeat S r0.2 := by
  have F : Fr W_X9_beginsBeat S S := Fr.rf
  unfold f_X9_beginsBeat at h
  exact F.trans (fr_X9_beginsBeat_b0 a1 S h)
def W_X6_loudOf : List Nat × List Nat × List Nat × Bool := ([], [], [], false)
theorem fr_X6_loudOf_b80 (v4 : Int32) (S : St) {r0 : Int32 × St} (h : f_X6_loudOf_b80 v4 S = some r0) : Fr W_X6_loudOf S r0.2 := by
  have F : Fr W_X6_loudOf S S := Fr.rf
  unfold f_X6_loudOf_b80 at h
  exact fr_end h F
theorem fr_X6_loudOf_b32 (v2 : Int32) (v4 : Int32) (S : St) {r0 : Int32 × St} (h : f_X6_loudOf_b32 v2 v4 S = some r0) : Fr W_X6_loudOf S r0.2 := by
  have F : Fr W_X6_loudOf S S := Fr.rf
  unfold f_X6_loudOf_b32 at h
  obtain ⟨⟨r6, S5⟩, e_, h⟩ := bnd_some h
  replace F := F.trans ((fr_X9_beginsBar v2 _ e_).mono (w1 := W_X6_loudOf) rfl rfl rfl rfl)
  rcases ite_or h with h | h
  · obtain ⟨⟨r8, S7⟩, e_, h⟩ := bnd_some h
    replace F := F.trans ((fr_X9_beginsBeat v2 _ e_).mono (w1 := W_X6_loudOf) rfl rfl rfl rfl)
    rcases ite_or h with h | h
    · exact F.trans (fr_X6_loudOf_b80 v4 S7 h)
    · obtain ⟨⟨r10, S9⟩, e_, h⟩ := bnd_some h
      replace F := F.trans ((fr_X8_numberFor (gI S7 13) 6 _ e_).mono (w1 := W_X6_loudOf) rfl rfl rfl rfl)
      obtain ⟨x11, _, h⟩ := vlet_ex h
      exact F.trans (fr_X6_loudOf_b80 x11 S9 h)
  · obtain ⟨⟨r13, S12⟩, e_, h⟩ := bnd_some h
    replace F := F.trans ((fr_X8_numberFor (gI S5 13) 5 _ e_).mono (w1 := W_X6_loudOf) rfl rfl rfl rfl)
    obtain ⟨x14, _, h⟩ := vlet_ex h
    exact F.trans (fr_X6_loudOf_b80 x14 S12 h)
theorem fr_X6_loudOf_b0 (a2 : Int32) (S : St) {r0 : Int32 × St} (h : f_X6_loudOf_b0 a2 S = some r0) : Fr W_X6_loudOf S r0.2 := by
  have F : Fr W_X6_loudOf S S := Fr.rf
  unfold f_X6_loudOf_b0 at h
  obtain ⟨⟨r2, S1⟩, e_, h⟩ := bnd_some h
  replace F := F.trans ((fr_X2_at a2 _ e_).mono (w1 := W_X6_loudOf) rfl rfl rfl rfl)
  obtain ⟨⟨r4, S3⟩, e_, h⟩ := bnd_some h
  replace F := F.trans ((fr_X6_isMarked 4 _ e_).mono (w1 := W_X6_loudOf) rfl rfl rfl rfl)
  rcases ite_or h with h | h
  · exact F.trans (fr_X6_loudOf_b32 a2 r2 S3 h)
  · obtain ⟨⟨r16, S15⟩, e_, h⟩ := bnd_some h
    replace F := F.trans ((fr_X8_numberFor (gI S3 13) 4 _ e_).mono (w1 := W_X6_loudOf) rfl rfl rfl rfl)
    obtain ⟨x17, _, h⟩ := vlet_ex h
    exact F.trans (fr_X6_loudOf_b32 a2 x17 S15 h)
theorem fr_X6_loudOf (a2 : Int32) (S : St) {r0 : Int32 × St} (h : f_X6_loudOf a2 S = some r0) : Fr W_X6_loudOf S r0.2 := by
  have F : Fr W_X6_loudOf S S := Fr.rf
  unfold f_X6_loudOf at h
  exact F.trans (fr_X6_loudOf_b0 a2 S h)
def W_X6_drawOf : List Nat × List Nat × List Nat × Bool := ([], [], [], false)
theorem fr_X6_drawOf_b0 (a1 : Int32) (a2 : Int64) (S : St) {r0 : Int32 × St} (h : f_X6_drawOf_b0 a1 a2 S = some r0) : Fr W_X6_drawOf S r0.2 := by
  have F : Fr W_X6_drawOf S S := Fr.rf
  unfold f_X6_drawOf_b0 at h
  obtain ⟨y1, _, h⟩ := vlet_ex h
  obtain ⟨y2, _, h⟩ := vlet_ex h
  obtain ⟨y3, _, h⟩ := vlet_ex h
  obtain ⟨⟨r5, S4⟩, e_, h⟩ := bnd_some h
  replace F := F.trans ((fr_J9_floorMod_f86c9 (lus y3 33) ((2 * (Int32.toInt64 (imax 0 a1))) + 1) _ e_).mono (w1 := W_X6_drawOf) rfl rfl rfl rfl)
  exact fr_end h F
theorem fr_X6_drawOf (a1 : Int32) (a2 : Int64) (S : St) {r0 : Int32 × St} (h : f_X6_drawOf a1 a2 S = some r0) : Fr W_X6_drawOf S r0.2 := by
  have F : Fr W_X6_drawOf S S := Fr.rf
  unfold f_X6_drawOf at h
  exact F.trans (fr_X6_drawOf_b0 a1 a2 S h)
def W_X6_onOf : List Nat × List Nat × List Nat × Bool := ([], [], [], false)
theorem fr_X6_onOf_b34 (w0 : Int32) (S : St) {r0 : Int32 × St} (h : f_X6_onOf_b34 w0 S = some r0) : Fr W_X6_onOf S r0.2 := by
  have F : Fr W_X6_onOf S S := Fr.rf
  unfold f_X6_onOf_b34 at h
  exact fr_end h F
theorem fr_X6_onOf_b0 (a1 : Int32) (a3 : Int64) (S : St) {r0 : Int32 × St} (h : f_X6_onOf_b0 a1 a3 S = some r0) : Fr W_X6_onOf S r0.2 := by
  have F : Fr W_X6_onOf S S := Fr.rf
  unfold f_X6_onOf_b0 at h
  obtain ⟨⟨r2, S1⟩, e_, h⟩ := bnd_some h
  replace F := F.trans ((fr_X8_numberFor (gI S 13) 12 _ e_).mono (w1 := W_X6_onOf) rfl rfl rfl rfl)
  rcases ite_or h with h | h
  · exact F.trans (fr_X6_onOf_b34 a1 S1 h)
  · obtain ⟨⟨r4, S3⟩, e_, h⟩ := bnd_some h
    replace F := F.trans ((fr_X6_drawOf r2 a3 _ e_).mono (w1 := W_X6_onOf) rfl rfl rfl rfl)
    exact F.trans (fr_X6_onOf_b34 (imax 0 (a1 + r4)) S3 h)
theorem fr_X6_onOf (a1 : Int32) (a3 : Int64) (S : St) {r0 : Int32 × St} (h : f_X6_onOf a1 a3 S = some r0) : Fr W_X6_onOf S r0.2 := by
  have F : Fr W_X6_onOf S S := Fr.rf
  unfold f_X6_onOf at h
  exact F.trans (fr_X6_onOf_b0 a1 a3 S h)
def W_X1_add : List Nat × List Nat × List Nat × Bool := ([19, 20], [32, 33, 34, 35, 36, 37, 38], [], false)
theorem fr_X1_add_b0 (a1 : Int32) (a2 : Int32) (a3 : Int32) (a4 : Int32) (a5 : Int32) (a6 : Int32) (a7 : Int32) (S : St) {r0 : Unit × St} (h : f_X1_add_b0 a1 a2 a3 a4 a5 a6 a7 S = some r0) : Fr W_X1_add S r0.2 := by
  have F : Fr W_X1_add S S := Fr.rf
  unfold f_X1_add_b0 at h
  rcases ite_or h with h | h
  · obtain ⟨S1, e_, h⟩ := vlet_ex (chk_some h).2
    replace F := F.trans (Fr.sto (w := W_X1_add) (k := 32) e_ rfl)
    obtain ⟨S2, e_, h⟩ := vlet_ex (chk_some h).2
    replace F := F.trans (Fr.sto (w := W_X1_add) (k := 33) e_ rfl)
    obtain ⟨S3, e_, h⟩ := vlet_ex (chk_some h).2
    replace F := F.trans (Fr.sto (w := W_X1_add) (k := 34) e_ rfl)
    obtain ⟨S4, e_, h⟩ := vlet_ex (chk_some h).2
    replace F := F.trans (Fr.sto (w := W_X1_add) (k := 35) e_ rfl)
    obtain ⟨S5, e_, h⟩ := vlet_ex (chk_some h).2
    replace F := F.trans (Fr.sto (w := W_X1_add) (k := 36) e_ rfl)
    obtain ⟨S6, e_, h⟩ := vlet_ex (chk_some h).2
    replace F := F.trans (Fr.sto (w := W_X1_add) (k := 37) e_ rfl)
    obtain ⟨S7, e_, h⟩ := vlet_ex (chk_some h).2
    replace F := F.trans (Fr.sto (w := W_X1_add) (k := 38) e_ rfl)
    obtain ⟨S8, e_, h⟩ := vlet_ex h
    replace F := F.trans (Fr.pI (w := W_X1_add) (k := 19) e_ rfl)
    exact fr_end h F
  · obtain ⟨S9, e_, h⟩ := vlet_ex h
    replace F := F.trans (Fr.pI (w := W_X1_add) (k := 20) e_ rfl)
    exact fr_end h F
theorem fr_X1_add (a1 : Int32) (a2 : Int32) (a3 : Int32) (a4 : Int32) (a5 : Int32) (a6 : Int32) (a7 : Int32) (S : St) {r0 : Unit × St} (h : f_X1_add a1 a2 a3 a4 a5 a6 a7 S = some r0) : Fr W_X1_add S r0.2 := by
  have F : Fr W_X1_add S S := Fr.rf
  unfold f_X1_add at h
  exact F.trans (fr_X1_add_b0 a1 a2 a3 a4 a5 a6 a7 S h)
def W_X6_addPart : List Nat × List Nat × List Nat × Bool := ([17, 18, 19, 20], [32, 33, 34, 35, 36, 37, 38], [], false)
theorem fr_X6_addPart_b0 (a1 : Int32) (a2 : Int32) (a3 : Int32) (a4 : Int32) (S : St) {r0 : Unit × St} (h : f_X6_addPart_b0 a1 a2 a3 a4 S = some r0) : Fr W_X6_addPart S r0.2 := by
  have F : Fr W_X6_addPart S S := Fr.rf
  unfold f_X6_addPart_b0 at h
  obtain ⟨⟨_u1, S1⟩, e_, h⟩ := bnd_some h
  replace F := F.trans ((fr_X1_add (gI S 17) a4 a2 a3 (gI S 12) a1 (gI S 13) _ e_).mono (w1 := W_X6_addPart) rfl rfl rfl rfl)
  obtain ⟨S2, e_, h⟩ := vlet_ex h
  replace F := F.trans (Fr.pI (w := W_X6_addPart) (k := 17) e_ rfl)
  obtain ⟨S3, e_, h⟩ := vlet_ex h
  replace F := F.trans (Fr.pI (w := W_X6_addPart) (k := 18) e_ rfl)
  exact fr_end h F
theorem fr_X6_addPart (a1 : Int32) (a2 : Int32) (a3 : Int32) (a4 : Int32) (S : St) {r0 : Unit × St} (h : f_X6_addPart a1 a2 a3 a4 S = some r0) : Fr W_X6_addPart S r0.2 := by
  have F : Fr W_X6_addPart S S := Fr.rf
  unfold f_X6_addPart at h
  exact F.trans (fr_X6_addPart_b0 a1 a2 a3 a4 S h)
def W_X6_addTurn : List Nat × List Nat × List Nat × Bool := ([17, 18, 19, 20], [32, 33, 34, 35, 36, 37, 38], [], false)
theorem fr_X6_addTurn_b0 (S : St) {r0 : Int32 × St} (h : f_X6_addTurn_b0 S = some r0) : Fr W_X6_addTurn S r0.2 := by
  have F : Fr W_X6_addTurn S S := Fr.rf
  unfold f_X6_addTurn_b0 at h
  rcases ite_or h with h | h
  · obtain ⟨⟨r2, S1⟩, e_, h⟩ := bnd_some h
    replace F := F.trans ((fr_X8_numberFor (gI S 13) 9 _ e_).mono (w1 := W_X6_addTurn) rfl rfl rfl rfl)
    replace h := (chk_some h).2
    obtain ⟨x3, _, h⟩ := vlet_ex h
    obtain ⟨⟨_u4, S4⟩, e_, h⟩ := bnd_some h
    replace F := F.trans ((fr_X6_addPart 3 (gI S1 14) (gI S1 16) x3 _ e_).mono (w1 := W_X6_addTurn) rfl rfl rfl rfl)
    obtain ⟨⟨_u5, S5⟩, e_, h⟩ := bnd_some h
    replace F := F.trans ((fr_X6_addPart 3 ((gI S4 14) - 2) (gI S4 16) x3 _ e_).mono (w1 := W_X6_addTurn) rfl rfl rfl rfl)
    obtain ⟨⟨_u6, S6⟩, e_, h⟩ := bnd_some h
    replace F := F.trans ((fr_X6_addPart 3 (gI S5 14) (gI S5 16) (gI S5 18) _ e_).mono (w1 := W_X6_addTurn) rfl rfl rfl rfl)
    exact fr_end h F
  · exact fr_end h F
theorem fr_X6_addTurn (S : St) {r0 : Int32 × St} (h : f_X6_addTurn S = some r0) : Fr W_X6_addTurn S r0.2 := by
  have F : Fr W_X6_addTurn S S := Fr.rf
  unfold f_X6_addTurn at h
  exact F.trans (fr_X6_addTurn_b0  S h)
def W_X6_addTrill : List Nat × List Nat × List Nat × Bool := ([17, 18, 19, 20], [32, 33, 34, 35, 36, 37, 38], [], false)
theorem fr_X6_addTrill_b129 {rec85 : Int32 × Int32 × St → Option (Int32 × St)} (v2 : Int32) (v3 : Int32) (v6 : Int32) (w0 : Int32) (hrec85 : ∀ (s : Int32 × Int32 × St) (r : Int32 × St), rec85 s = some r → Fr W_X6_addTrill (s.2.2) r.2) (S : St) {r0 : Int32 × St} (h : f_X6_addTrill_b129 rec85 v2 v3 v6 w0 S = some r0) : Fr W_X6_addTrill S r0.2 := by
  have F : Fr W_X6_addTrill S S := Fr.rf
  unfold f_X6_addTrill_b129 at h
  exact F.trans (hrec85 (w0, v6 + 1, S) _ h)
theorem fr_X6_addTrill_b111 {rec85 : Int32 × Int32 × St → Option (Int32 × St)} (v2 : Int32) (v3 : Int32) (v4 : Int32) (v6 : Int32) (w1 : Int32) (w2 : Int32) (hrec85 : ∀ (s : Int32 × Int32 × St) (r : Int32 × St), rec85 s = some r → Fr W_X6_addTrill (s.2.2) r.2) (S : St) {r0 : Int32 × St} (h : f_X6_addTrill_b111 rec85 v2 v3 v4 v6 w1 w2 S = some r0) : Fr W_X6_addTrill S r0.2 := by
  have F : Fr W_X6_addTrill S S := Fr.rf
  unfold f_X6_addTrill_b111 at h
  obtain ⟨⟨_u8, S8⟩, e_, h⟩ := bnd_some h
  replace F := F.trans ((fr_X6_addPart w1 w2 (gI S 16) v2 _ e_).mono (w1 := W_X6_addTrill) rfl rfl rfl rfl)
  rcases ite_or h with h | h
  · exact F.trans (fr_X6_addTrill_b129 v2 v3 v6 1 hrec85 S8 h)
  · exact F.trans (fr_X6_addTrill_b129 v2 v3 v6 0 hrec85 S8 h)
theorem fr_X6_addTrill_b85 {rec85 : Int32 × Int32 × St → Option (Int32 × St)} (v2 : Int32) (v3 : Int32) (v4 : Int32) (v6 : Int32) (hrec85 : ∀ (s : Int32 × Int32 × St) (r : Int32 × St), rec85 s = some r → Fr W_X6_addTrill (s.2.2) r.2) (S : St) {r0 : Int32 × St} (h : f_X6_addTrill_b85 rec85 v2 v3 v4 v6 S = some r0) : Fr W_X6_addTrill S r0.2 := by
  have F : Fr W_X6_addTrill S S := Fr.rf
  unfold f_X6_addTrill_b85 at h
  rcases ite_or h with h | h
  · obtain ⟨⟨_u7, S7⟩, e_, h⟩ := bnd_some h
    replace F := F.trans ((fr_X6_addPart 2 (gI S 14) (gI S 16) (gI S 18) _ e_).mono (w1 := W_X6_addTrill) rfl rfl rfl rfl)
    exact fr_end h F
  · rcases ite_or h with h | h
    · exact F.trans (fr_X6_addTrill_b111 v2 v3 v4 v6 2 (gI S 14) hrec85 S h)
    · exact F.trans (fr_X6_addTrill_b111 v2 v3 v4 v6 2 ((gI S 14) + 2) hrec85 S h)
theorem fr_X6_addTrill_l85 (v2 : Int32) (v3 : Int32) : ∀ (n : Nat) (s : Int32 × Int32 × St) (r : Int32 × St), f_X6_addTrill_l85 v2 v3 n s = some r → Fr W_X6_addTrill (s.2.2) r.2 :=
  loop_sound (fun rec85 hrec85 s r h => fr_X6_addTrill_b85 v2 v3 s.1 s.2.1 hrec85 s.2.2 h)
theorem fr_X6_addTrill_b82 (v2 : Int32) (v3 : Int32) (v4 : Int32) (S : St) {r0 : Int32 × St} (h : f_X6_addTrill_b82 v2 v3 v4 S = some r0) : Fr W_X6_addTrill S r0.2 := by
  have F : Fr W_X6_addTrill S S := Fr.rf
  unfold f_X6_addTrill_b82 at h
  exact F.trans (fr_X6_addTrill_l85 v2 v3 _ (v4, 1, S) _ h)
theorem fr_X6_addTrill_b72 (v2 : Int32) (v3 : Int32) (v4 : Int32) (w0 : Int32) (S : St) {r0 : Int32 × St} (h : f_X6_addTrill_b72 v2 v3 v4 w0 S = some r0) : Fr W_X6_addTrill S r0.2 := by
  have F : Fr W_X6_addTrill S S := Fr.rf
  unfold f_X6_addTrill_b72 at h
  rcases ite_or h with h | h
  · exact F.trans (fr_X6_addTrill_b82 v2 v3 v4 S h)
  · exact F.trans (fr_X6_addTrill_b82 v2 (v3 + (-1)) v4 S h)
theorem fr_X6_addTrill_b62 (v2 : Int32) (v3 : Int32) (v4 : Int32) (w0 : Int32) (S : St) {r0 : Int32 × St} (h : f_X6_addTrill_b62 v2 v3 v4 w0 S = some r0) : Fr W_X6_addTrill S r0.2 := by
  have F : Fr W_X6_addTrill S S := Fr.rf
  unfold f_X6_addTrill_b62 at h
  rcases ite_or h with h | h
  · exact F.trans (fr_X6_addTrill_b72 v2 v3 v4 1 S h)
  · exact F.trans (fr_X6_addTrill_b72 v2 v3 v4 0 S h)
theorem fr_X6_addTrill_b48 (v2 : Int32) (v3 : Int32) (w0 : Int32) (S : St) {r0 : Int32 × St} (h : f_X6_addTrill_b48 v2 v3 w0 S = some r0) : Fr W_X6_addTrill S r0.2 := by
  have F : Fr W_X6_addTrill S S := Fr.rf
  unfold f_X6_addTrill_b48 at h
  replace h := (chk_some h).2
  rcases ite_or h with h | h
  · exact F.trans (fr_X6_addTrill_b62 v2 v3 w0 1 S h)
  · exact F.trans (fr_X6_addTrill_b62 v2 v3 w0 0 S h)
theorem fr_X6_addTrill_b0 (S : St) {r0 : Int32 × St} (h : f_X6_addTrill_b0 S = some r0) : Fr W_X6_addTrill S r0.2 := by
  have F : Fr W_X6_addTrill S S := Fr.rf
  unfold f_X6_addTrill_b0 at h
  obtain ⟨⟨r2, S1⟩, e_, h⟩ := bnd_some h
  replace F := F.trans ((fr_X8_numberFor (gI S 13) 7 _ e_).mono (w1 := W_X6_addTrill) rfl rfl rfl rfl)
  obtain ⟨⟨r4, S3⟩, e_, h⟩ := bnd_some h
  replace F := F.trans ((fr_X11_quotient (Int32.toInt64 (gI S1 18)) (Int32.toInt64 r2) _ e_).mono (w1 := W_X6_addTrill) rfl rfl rfl rfl)
  rcases ite_or h with h | h
  · obtain ⟨⟨r6, S5⟩, e_, h⟩ := bnd_some h
    replace F := F.trans ((fr_X8_numberFor (gI S3 13) 8 _ e_).mono (w1 := W_X6_addTrill) rfl rfl rfl rfl)
    rcases ite_or h with h | h
    · exact F.trans (fr_X6_addTrill_b48 r2 r4 1 S5 h)
    · exact F.trans (fr_X6_addTrill_b48 r2 r4 0 S5 h)
  · exact fr_end h F
theorem fr_X6_addTrill (S : St) {r0 : Int32 × St} (h : f_X6_addTrill S = some r0) : Fr W_X6_addTrill S r0.2 := by
  have F : Fr W_X6_addTrill S S := Fr.rf
  unfold f_X6_addTrill at h
  exact F.trans (fr_X6_addTrill_b0  S h)
def W_X6_addLean : List Nat × List Nat × List Nat × Bool := ([17, 18, 19, 20], [32, 33, 34, 35, 36, 37, 38], [], false)
theorem fr_X6_addLean_b48 (S : St) {r0 : Unit × St} (h : f_X6_addLean_b48 S = some r0) : Fr W_X6_addLean S r0.2 := by
  have F : Fr W_X6_addLean S S := Fr.rf
  unfold f_X6_addLean_b48 at h
  exact fr_end h F
theorem fr_X6_addLean_b0 (S : St) {r0 : Unit × St} (h : f_X6_addLean_b0 S = some r0) : Fr W_X6_addLean S r0.2 := by
  have F : Fr W_X6_addLean S S := Fr.rf
  unfold f_X6_addLean_b0 at h
  obtain ⟨⟨r2, S1⟩, e_, h⟩ := bnd_some h
  replace F := F.trans ((fr_X8_numberFor (gI S 13) 10 _ e_).mono (w1 := W_X6_addLean) rfl rfl rfl rfl)
  replace h := (chk_some h).2
  obtain ⟨x3, _, h⟩ := vlet_ex h
  rcases ite_or h with h | h
  · exact F.trans (fr_X6_addLean_b48  S1 h)
  · replace h := (chk_some h).2
    obtain ⟨⟨_u4, S4⟩, e_, h⟩ := bnd_some h
    replace F := F.trans ((fr_X6_addPart 1 ((gI S1 14) + 2) (imax 1 (((gI S1 16) * 3) / 4)) x3 _ e_).mono (w1 := W_X6_addLean) rfl rfl rfl rfl)
    exact F.trans (fr_X6_addLean_b48  S4 h)
theorem fr_X6_addLean (S : St) {r0 : Unit × St} (h : f_X6_addLean S = some r0) : Fr W_X6_addLean S r0.2 := by
  have F : Fr W_X6_addLean S S := Fr.rf
  unfold f_X6_addLean at h
  exact F.trans (fr_X6_addLean_b0  S h)
def W_X4_isInChord : List Nat × List Nat × List Nat × Bool := ([], [], [], false)
theorem fr_X4_isInChord_b57 (w0 : Int32) (S : St) {r0 : Int32 × St} (h : f_X4_isInChord_b57 w0 S = some r0) : Fr W_X4_isInChord S r0.2 := by
  have F : Fr W_X4_isInChord S S := Fr.rf
  unfold f_X4_isInChord_b57 at h
  exact fr_end (chk_some h).2 F
theorem fr_X4_isInChord_b56 (S : St) {r0 : Int32 × St} (h : f_X4_isInChord_b56 S = some r0) : Fr W_X4_isInChord S r0.2 := by
  have F : Fr W_X4_isInChord S S := Fr.rf
  unfold f_X4_isInChord_b56 at h
  exact F.trans (fr_X4_isInChord_b57 0 S h)
theorem fr_X4_isInChord_b17 (v1 : Int32) (v2 : Int32) (w0 : Int32) (S : St) {r0 : Int32 × St} (h : f_X4_isInChord_b17 v1 v2 w0 S = some r0) : Fr W_X4_isInChord S r0.2 := by
  have F : Fr W_X4_isInChord S S := Fr.rf
  unfold f_X4_isInChord_b17 at h
  rcases ite_or h with h | h
  · exact F.trans (fr_X4_isInChord_b56  S h)
  · replace h := (chk_some h).2
    replace h := (chk_some h).2
    rcases ite_or h with h | h
    · replace h := (chk_some h).2
      replace h := (chk_some h).2
      rcases ite_or h with h | h
      · exact F.trans (fr_X4_isInChord_b57 1 S h)
      · exact F.trans (fr_X4_isInChord_b56  S h)
    · exact F.trans (fr_X4_isInChord_b56  S h)
theorem fr_X4_isInChord_b0 (a1 : Int32) (a2 : Int32) (S : St) {r0 : Int32 × St} (h : f_X4_isInChord_b0 a1 a2 S = some r0) : Fr W_X4_isInChord S r0.2 := by
  have F : Fr W_X4_isInChord S S := Fr.rf
  unfold f_X4_isInChord_b0 at h
  replace h := (chk_some h).2
  rcases ite_or h with h | h
  · exact F.trans (fr_X4_isInChord_b17 a1 a2 0 S h)
  · exact F.trans (fr_X4_isInChord_b17 a1 a2 1 S h)
theorem fr_X4_isInChord (a1 : Int32) (a2 : Int32) (S : St) {r0 : Int32 × St} (h : f_X4_isInChord a1 a2 S = some r0) : Fr W_X4_isInChord S r0.2 := by
  have F : Fr W_X4_isInChord S S := Fr.rf
  unfold f_X4_isInChord at h
  exact F.trans (fr_X4_isInChord_b0 a1 a2 S h)
def W_X4_isLower : List Nat × List Nat × List Nat × Bool := ([], [], [], false)
theorem fr_X4_isLower_b40 (w0 : Int32) (S : St) {r0 : Int32 × St} (h : f_X4_isLower_b40 w0 S = some r0) : Fr W_X4_isLower S r0.2 := by
  have F : Fr W_X4_isLower S S := Fr.rf
  unfold f_X4_isLower_b40 at h
  exact fr_end (chk_some h).2 F
theorem fr_X4_isLower_b35 (S : St) {r0 : Int32 × St} (h : f_X4_isLower_b35 S = some r0) : Fr W_X4_isLower S r0.2 := by
  have F : Fr W_X4_isLower S S := Fr.rf
  unfold f_X4_isLower_b35 at h
  exact F.trans (fr_X4_isLower_b40 1 S h)
theorem fr_X4_isLower_b39 (S : St) {r0 : Int32 × St} (h : f_X4_isLower_b39 S = some r0) : Fr W_X4_isLower S r0.2 := by
  have F : Fr W_X4_isLower S S := Fr.rf
  unfold f_X4_isLower_b39 at h
  exact F.trans (fr_X4_isLower_b40 0 S h)
theorem fr_X4_isLower_b0 (a1 : Int32) (a2 : Int32) (S : St) {r0 : Int32 × St} (h : f_X4_isLower_b0 a1 a2 S = some r0) : Fr W_X4_isLower S r0.2 := by
  have F : Fr W_X4_isLower S S := Fr.rf
  unfold f_X4_isLower_b0 at h
  replace h := (chk_some h).2
  replace h := (chk_some h).2
  rcases ite_or h with h | h
  · exact F.trans (fr_X4_isLower_b35  S h)
  · replace h := (chk_some h).2
    replace h := (chk_some h).2
    rcases ite_or h with h | h
    · rcases ite_or h with h | h
      · exact F.trans (fr_X4_isLower_b39  S h)
      · exact F.trans (fr_X4_isLower_b35  S h)
    · exact F.trans (fr_X4_isLower_b39  S h)
theorem fr_X4_isLower (a1 : Int32) (a2 : Int32) (S : St) {r0 : Int32 × St} (h : f_X4_isLower a1 a2 S = some r0) : Fr W_X4_isLower S r0.2 := by
  have F : Fr W_X4_isLower S S := Fr.rf
  unfold f_X4_isLower at h
  exact F.trans (fr_X4_isLower_b0 a1 a2 S h)
def W_X4_rolledAhead : List Nat × List Nat × List Nat × Bool := ([], [], [], false)
theorem fr_X4_rolledAhead_b33 {rec4 : Int32 × Int32 × St → Option (Int32 × St)} (v1 : Int32) (v2 : Int32) (v3 : Int32) (hrec4 : ∀ (s : Int32 × Int32 × St) (r : Int32 × St), rec4 s = some r → Fr W_X4_rolledAhead (s.2.2) r.2) (S : St) {r0 : Int32 × St} (h : f_X4_rolledAhead_b33 rec4 v1 v2 v3 S = some r0) : Fr W_X4_rolledAhead S r0.2 := by
  have F : Fr W_X4_rolledAhead S S := Fr.rf
  unfold f_X4_rolledAhead_b33 at h
  exact F.trans (hrec4 (v2, v3 + 1, S) _ h)
theorem fr_X4_rolledAhead_b4 {rec4 : Int32 × Int32 × St → Option (Int32 × St)} (v1 : Int32) (v2 : Int32) (v3 : Int32) (hrec4 : ∀ (s : Int32 × Int32 × St) (r : Int32 × St), rec4 s = some r → Fr W_X4_rolledAhead (s.2.2) r.2) (S : St) {r0 : Int32 × St} (h : f_X4_rolledAhead_b4 rec4 v1 v2 v3 S = some r0) : Fr W_X4_rolledAhead S r0.2 := by
  have F : Fr W_X4_rolledAhead S S := Fr.rf
  unfold f_X4_rolledAhead_b4 at h
  rcases ite_or h with h | h
  · exact fr_end h F
  · obtain ⟨⟨r2, S1⟩, e_, h⟩ := bnd_some h
    replace F := F.trans ((fr_X4_isInChord v3 v1 _ e_).mono (w1 := W_X4_rolledAhead) rfl rfl rfl rfl)
    rcases ite_or h with h | h
    · exact F.trans (fr_X4_rolledAhead_b33 v1 v2 v3 hrec4 S1 h)
    · obtain ⟨⟨r4, S3⟩, e_, h⟩ := bnd_some h
      replace F := F.trans ((fr_X4_isLower v3 v1 _ e_).mono (w1 := W_X4_rolledAhead) rfl rfl rfl rfl)
      rcases ite_or h with h | h
      · exact F.trans (fr_X4_rolledAhead_b33 v1 v2 v3 hrec4 S3 h)
      · exact F.trans (fr_X4_rolledAhead_b33 v1 (v2 + 1) v3 hrec4 S3 h)
theorem fr_X4_rolledAhead_l4 (v1 : Int32) : ∀ (n : Nat) (s : Int32 × Int32 × St) (r : Int32 × St), f_X4_rolledAhead_l4 v1 n s = some r → Fr W_X4_rolledAhead (s.2.2) r.2 :=
  loop_sound (fun rec4 hrec4 s r h => fr_X4_rolledAhead_b4 v1 s.1 s.2.1 hrec4 s.2.2 h)
theorem fr_X4_rolledAhead_b0 (a1 : Int32) (S : St) {r0 : Int32 × St} (h : f_X4_rolledAhead_b0 a1 S = some r0) : Fr W_X4_rolledAhead S r0.2 := by
  have F : Fr W_X4_rolledAhead S S := Fr.rf
  unfold f_X4_rolledAhead_b0 at h
  exact F.trans (fr_X4_rolledAhead_l4 a1 _ (0, 0, S) _ h)
theorem fr_X4_rolledAhead (a1 : Int32) (S : St) {r0 : Int32 × St} (h : f_X4_rolledAhead a1 S = some r0) : Fr W_X4_rolledAhead S r0.2 := by
  have F : Fr W_X4_rolledAhead S S := Fr.rf
  unfold f_X4_rolledAhead at h
  exact F.trans (fr_X4_rolledAhead_b0 a1 S h)
def W_X6_roll : List Nat × List Nat × List Nat × Bool := ([17, 18], [], [], false)
theorem fr_X6_roll_b0 (S : St) {r0 : Unit × St} (h : f_X6_roll_b0 S = some r0) : Fr W_X6_roll S r0.2 := by
  have F : Fr W_X6_roll S S := Fr.rf
  unfold f_X6_roll_b0 at h
  obtain ⟨⟨r2, S1⟩, e_, h⟩ := bnd_some h
  replace F := F.trans ((fr_X4_rolledAhead (gI S 12) _ e_).mono (w1 := W_X6_roll) rfl rfl rfl rfl)
  obtain ⟨⟨r4, S3⟩, e_, h⟩ := bnd_some h
  replace F := F.trans ((fr_X8_numberFor (gI S1 13) 11 _ e_).mono (w1 := W_X6_roll) rfl rfl rfl rfl)
  obtain ⟨x5, _, h⟩ := vlet_ex h
  obtain ⟨S6, e_, h⟩ := vlet_ex h
  replace F := F.trans (Fr.pI (w := W_X6_roll) (k := 17) e_ rfl)
  obtain ⟨S7, e_, h⟩ := vlet_ex h
  replace F := F.trans (Fr.pI (w := W_X6_roll) (k := 18) e_ rfl)
  exact fr_end h F
theorem fr_X6_roll (S : St) {r0 : Unit × St} (h : f_X6_roll S = some r0) : Fr W_X6_roll S r0.2 := by
  have F : Fr W_X6_roll S S := Fr.rf
  unfold f_X6_roll at h
  exact F.trans (fr_X6_roll_b0  S h)
def W_X6_addParts : List Nat × List Nat × List Nat × Bool := ([17, 18, 19, 20], [32, 33, 34, 35, 36, 37, 38], [], false)
theorem fr_X6_addParts_b65 (S : St) {r0 : Unit × St} (h : f_X6_addParts_b65 S = some r0) : Fr W_X6_addParts S r0.2 := by
  have F : Fr W_X6_addParts S S := Fr.rf
  unfold f_X6_addParts_b65 at h
  obtain ⟨⟨_u9, S9⟩, e_, h⟩ := bnd_some h
  replace F := F.trans ((fr_X6_addPart 0 (gI S 14) (gI S 16) (gI S 18) _ e_).mono (w1 := W_X6_addParts) rfl rfl rfl rfl)
  exact fr_end h F
theorem fr_X6_addParts_b47 (S : St) {r0 : Unit × St} (h : f_X6_addParts_b47 S = some r0) : Fr W_X6_addParts S r0.2 := by
  have F : Fr W_X6_addParts S S := Fr.rf
  unfold f_X6_addParts_b47 at h
  obtain ⟨⟨r8, S7⟩, e_, h⟩ := bnd_some h
  replace F := F.trans ((fr_X6_isMarked 16 _ e_).mono (w1 := W_X6_addParts) rfl rfl rfl rfl)
  rcases ite_or h with h | h
  · exact F.trans (fr_X6_addParts_b65  S7 h)
  · obtain ⟨⟨r11, S10⟩, e_, h⟩ := bnd_some h
    replace F := F.trans ((fr_X6_addTurn _ e_).mono (w1 := W_X6_addParts) rfl rfl rfl rfl)
    rcases ite_or h with h | h
    · exact F.trans (fr_X6_addParts_b65  S10 h)
    · exact fr_end h F
theorem fr_X6_addParts_b29 (S : St) {r0 : Unit × St} (h : f_X6_addParts_b29 S = some r0) : Fr W_X6_addParts S r0.2 := by
  have F : Fr W_X6_addParts S S := Fr.rf
  unfold f_X6_addParts_b29 at h
  obtain ⟨⟨r6, S5⟩, e_, h⟩ := bnd_some h
  replace F := F.trans ((fr_X6_isMarked 8 _ e_).mono (w1 := W_X6_addParts) rfl rfl rfl rfl)
  rcases ite_or h with h | h
  · exact F.trans (fr_X6_addParts_b47  S5 h)
  · obtain ⟨⟨r13, S12⟩, e_, h⟩ := bnd_some h
    replace F := F.trans ((fr_X6_addTrill _ e_).mono (w1 := W_X6_addParts) rfl rfl rfl rfl)
    rcases ite_or h with h | h
    · exact F.trans (fr_X6_addParts_b47  S12 h)
    · exact fr_end h F
theorem fr_X6_addParts_b15 (S : St) {r0 : Unit × St} (h : f_X6_addParts_b15 S = some r0) : Fr W_X6_addParts S r0.2 := by
  have F : Fr W_X6_addParts S S := Fr.rf
  unfold f_X6_addParts_b15 at h
  obtain ⟨⟨r4, S3⟩, e_, h⟩ := bnd_some h
  replace F := F.trans ((fr_X6_isMarked 32 _ e_).mono (w1 := W_X6_addParts) rfl rfl rfl rfl)
  rcases ite_or h with h | h
  · exact F.trans (fr_X6_addParts_b29  S3 h)
  · obtain ⟨⟨_u14, S14⟩, e_, h⟩ := bnd_some h
    replace F := F.trans ((fr_X6_addLean _ e_).mono (w1 := W_X6_addParts) rfl rfl rfl rfl)
    exact F.trans (fr_X6_addParts_b29  S14 h)
theorem fr_X6_addParts_b0 (S : St) {r0 : Unit × St} (h : f_X6_addParts_b0 S = some r0) : Fr W_X6_addParts S r0.2 := by
  have F : Fr W_X6_addParts S S := Fr.rf
  unfold f_X6_addParts_b0 at h
  obtain ⟨⟨r2, S1⟩, e_, h⟩ := bnd_some h
  replace F := F.trans ((fr_X6_isMarked 64 _ e_).mono (w1 := W_X6_addParts) rfl rfl rfl rfl)
  rcases ite_or h with h | h
  · exact F.trans (fr_X6_addParts_b15  S1 h)
  · obtain ⟨⟨_u15, S15⟩, e_, h⟩ := bnd_some h
    replace F := F.trans ((fr_X6_roll _ e_).mono (w1 := W_X6_addParts) rfl rfl rfl rfl)
    exact F.trans (fr_X6_addParts_b15  S15 h)
theorem fr_X6_addParts (S : St) {r0 : Unit × St} (h : f_X6_addParts S = some r0) : Fr W_X6_addParts S r0.2 := by
  have F : Fr W_X6_addParts S S := Fr.rf
  unfold f_X6_addParts at h
  exact F.trans (fr_X6_addParts_b0  S h)
def W_X6_makeParts : List Nat × List Nat × List Nat × Bool := ([12, 13, 14, 15, 16, 17, 18, 19, 20], [32, 33, 34, 35, 36, 37, 38], [], false)
theorem fr_X6_makeParts_b131 (w0 : Int32) (S : St) {r0 : Int32 × St} (h : f_X6_makeParts_b131 w0 S = some r0) : Fr W_X6_makeParts S r0.2 := by
  have F : Fr W_X6_makeParts S S := Fr.rf
  unfold f_X6_makeParts_b131 at h
  exact fr_end (chk_some h).2 F
theorem fr_X6_makeParts_b116 (S : St) {r0 : Int32 × St} (h : f_X6_makeParts_b116 S = some r0) : Fr W_X6_makeParts S r0.2 := by
  have F : Fr W_X6_makeParts S S := Fr.rf
  unfold f_X6_makeParts_b116 at h
  rcases ite_or h with h | h
  · exact F.trans (fr_X6_makeParts_b131 1 S h)
  · exact F.trans (fr_X6_makeParts_b131 0 S h)
theorem fr_X6_makeParts_b10 {rec10 : Int32 × St → Option (Int32 × St)} (v3 : Int64) (v5 : Int32) (hrec10 : ∀ (s : Int32 × St) (r : Int32 × St), rec10 s = some r → Fr W_X6_makeParts (s.2) r.2) (S : St) {r0 : Int32 × St} (h : f_X6_makeParts_b10 rec10 v3 v5 S = some r0) : Fr W_X6_makeParts S r0.2 := by
  have F : Fr W_X6_makeParts S S := Fr.rf
  unfold f_X6_makeParts_b10 at h
  rcases ite_or h with h | h
  · exact F.trans (fr_X6_makeParts_b116  S h)
  · rcases ite_or h with h | h
    · obtain ⟨⟨_u2, S2⟩, e_, h⟩ := bnd_some h
      replace F := F.trans ((fr_X6_takeNote v5 _ e_).mono (w1 := W_X6_makeParts) rfl rfl rfl rfl)
      replace h := (chk_some h).2
      obtain ⟨⟨r4, S3⟩, e_, h⟩ := bnd_some h
      replace F := F.trans ((fr_X6_longOf (rd S2 15 v5) _ e_).mono (w1 := W_X6_makeParts) rfl rfl rfl rfl)
      obtain ⟨S5, e_, h⟩ := vlet_ex h
      replace F := F.trans (Fr.pI (w := W_X6_makeParts) (k := 18) e_ rfl)
      replace h := (chk_some h).2
      obtain ⟨⟨r7, S6⟩, e_, h⟩ := bnd_some h
      replace F := F.trans ((fr_X6_loudOf (rd S5 14 v5) _ e_).mono (w1 := W_X6_makeParts) rfl rfl rfl rfl)
      obtain ⟨S8, e_, h⟩ := vlet_ex h
      replace F := F.trans (Fr.pI (w := W_X6_makeParts) (k := 16) e_ rfl)
      replace h := (chk_some h).2
      obtain ⟨⟨r10, S9⟩, e_, h⟩ := bnd_some h
      replace F := F.trans ((fr_X6_onOf (rd S8 14 v5) v3 _ e_).mono (w1 := W_X6_makeParts) rfl rfl rfl rfl)
      obtain ⟨S11, e_, h⟩ := vlet_ex h
      replace F := F.trans (Fr.pI (w := W_X6_makeParts) (k := 17) e_ rfl)
      obtain ⟨⟨_u12, S12⟩, e_, h⟩ := bnd_some h
      replace F := F.trans ((fr_X6_addParts _ e_).mono (w1 := W_X6_makeParts) rfl rfl rfl rfl)
      exact F.trans (hrec10 (v5 + 1, S12) _ h)
    · exact F.trans (fr_X6_makeParts_b116  S h)
theorem fr_X6_makeParts_l10 (v3 : Int64) : ∀ (n : Nat) (s : Int32 × St) (r : Int32 × St), f_X6_makeParts_l10 v3 n s = some r → Fr W_X6_makeParts (s.2) r.2 :=
  loop_sound (fun rec10 hrec10 s r h => fr_X6_makeParts_b10 v3 s.1 hrec10 s.2 h)
theorem fr_X6_makeParts_b0 (a3 : Int64) (S : St) {r0 : Int32 × St} (h : f_X6_makeParts_b0 a3 S = some r0) : Fr W_X6_makeParts S r0.2 := by
  have F : Fr W_X6_makeParts S S := Fr.rf
  unfold f_X6_makeParts_b0 at h
  obtain ⟨⟨_u1, S1⟩, e_, h⟩ := bnd_some h
  replace F := F.trans ((fr_X1_clear _ e_).mono (w1 := W_X6_makeParts) rfl rfl rfl rfl)
  exact F.trans (fr_X6_makeParts_l10 a3 _ (0, S1) _ h)
theorem fr_X6_makeParts (a3 : Int64) (S : St) {r0 : Int32 × St} (h : f_X6_makeParts a3 S = some r0) : Fr W_X6_makeParts S r0.2 := by
  have F : Fr W_X6_makeParts S S := Fr.rf
  unfold f_X6_makeParts at h
  exact F.trans (fr_X6_makeParts_b0 a3 S h)
def W_X1_bend : List Nat × List Nat × List Nat × Bool := ([], [32, 33], [], false)
theorem fr_X1_bend_b2 {rec2 : Int32 × St → Option (Unit × St)} (v2 : Int32) (hrec2 : ∀ (s : Int32 × St) (r : Unit × St), rec2 s = some r → Fr W_X1_bend (s.2) r.2) (S : St) {r0 : Unit × St} (h : f_X1_bend_b2 rec2 v2 S = some r0) : Fr W_X1_bend S r0.2 := by
  have F : Fr W_X1_bend S S := Fr.rf
  unfold f_X1_bend_b2 at h
  rcases ite_or h with h | h
  · exact fr_end h F
  · replace h := (chk_some h).2
    obtain ⟨⟨r2, S1⟩, e_, h⟩ := bnd_some h
    replace F := F.trans ((fr_X0_bent (rd S 32 v2) _ e_).mono (w1 := W_X1_bend) rfl rfl rfl rfl)
    replace h := (chk_some h).2
    replace h := (chk_some h).2
    obtain ⟨⟨r4, S3⟩, e_, h⟩ := bnd_some h
    replace F := F.trans ((fr_X0_bent ((rd S1 32 v2) + (rd S1 33 v2)) _ e_).mono (w1 := W_X1_bend) rfl rfl rfl rfl)
    obtain ⟨S5, e_, h⟩ := vlet_ex (chk_some h).2
    replace F := F.trans (Fr.sto (w := W_X1_bend) (k := 32) e_ rfl)
    obtain ⟨S6, e_, h⟩ := vlet_ex (chk_some h).2
    replace F := F.trans (Fr.sto (w := W_X1_bend) (k := 33) e_ rfl)
    exact F.trans (hrec2 (v2 + 1, S6) _ h)
theorem fr_X1_bend_l2 : ∀ (n : Nat) (s : Int32 × St) (r : Unit × St), f_X1_bend_l2 n s = some r → Fr W_X1_bend (s.2) r.2 :=
  loop_sound (fun rec2 hrec2 s r h => fr_X1_bend_b2 s.1 hrec2 s.2 h)
theorem fr_X1_bend_b0 (S : St) {r0 : Unit × St} (h : f_X1_bend_b0 S = some r0) : Fr W_X1_bend S r0.2 := by
  have F : Fr W_X1_bend S S := Fr.rf
  unfold f_X1_bend_b0 at h
  exact F.trans (fr_X1_bend_l2  _ (0, S) _ h)
theorem fr_X1_bend (S : St) {r0 : Unit × St} (h : f_X1_bend S = some r0) : Fr W_X1_bend S r0.2 := by
  have F : Fr W_X1_bend S S := Fr.rf
  unfold f_X1_bend at h
  exact F.trans (fr_X1_bend_b0  S h)
def W_X5_merge : List Nat × List Nat × List Nat × Bool := ([], [], [], true)
theorem fr_X5_merge_b82 {rec9 : Int32 × Int32 × Int32 × St → Option (Unit × St)} (v2 : Int32) (v3 : Int32) (v4 : Int32) (v5 : Int32) (v6 : Int32) (hrec9 : ∀ (s : Int32 × Int32 × Int32 × St) (r : Unit × St), rec9 s = some r → Fr W_X5_merge (s.2.2.2) r.2) (S : St) {r0 : Unit × St} (h : f_X5_merge_b82 rec9 v2 v3 v4 v5 v6 S = some r0) : Fr W_X5_merge S r0.2 := by
  have F : Fr W_X5_merge S S := Fr.rf
  unfold f_X5_merge_b82 at h
  exact F.trans (hrec9 (v4, v5, v6 + 1, S) _ h)
theorem fr_X5_merge_b65 {rec9 : Int32 × Int32 × Int32 × St → Option (Unit × St)} (v2 : Int32) (v3 : Int32) (v4 : Int32) (v5 : Int32) (v6 : Int32) (hrec9 : ∀ (s : Int32 × Int32 × Int32 × St) (r : Unit × St), rec9 s = some r → Fr W_X5_merge (s.2.2.2) r.2) (S : St) {r0 : Unit × St} (h : f_X5_merge_b65 rec9 v2 v3 v4 v5 v6 S = some r0) : Fr W_X5_merge S r0.2 := by
  have F : Fr W_X5_merge S S := Fr.rf
  unfold f_X5_merge_b65 at h
  replace h := (chk_some (chk_some h).2).2
  obtain ⟨S1, e_, h⟩ := vlet_ex (chk_some (chk_some h).2).2
  replace F := F.trans (Fr.stoL (w := W_X5_merge) e_ rfl)
  exact F.trans (fr_X5_merge_b82 v2 v3 v4 (v5 + 1) v6 hrec9 S1 h)
theorem fr_X5_merge_b45 {rec9 : Int32 × Int32 × Int32 × St → Option (Unit × St)} (v2 : Int32) (v3 : Int32) (v4 : Int32) (v5 : Int32) (v6 : Int32) (hrec9 : ∀ (s : Int32 × Int32 × Int32 × St) (r : Unit × St), rec9 s = some r → Fr W_X5_merge (s.2.2.2) r.2) (S : St) {r0 : Unit × St} (h : f_X5_merge_b45 rec9 v2 v3 v4 v5 v6 S = some r0) : Fr W_X5_merge S r0.2 := by
  have F : Fr W_X5_merge S S := Fr.rf
  unfold f_X5_merge_b45 at h
  replace h := (chk_some (chk_some h).2).2
  obtain ⟨S2, e_, h⟩ := vlet_ex (chk_some (chk_some h).2).2
  replace F := F.trans (Fr.stoL (w := W_X5_merge) e_ rfl)
  exact F.trans (fr_X5_merge_b82 v2 v3 (v4 + 1) v5 v6 hrec9 S2 h)
theorem fr_X5_merge_b9 {rec9 : Int32 × Int32 × Int32 × St → Option (Unit × St)} (v2 : Int32) (v3 : Int32) (v4 : Int32) (v5 : Int32) (v6 : Int32) (hrec9 : ∀ (s : Int32 × Int32 × Int32 × St) (r : Unit × St), rec9 s = some r → Fr W_X5_merge (s.2.2.2) r.2) (S : St) {r0 : Unit × St} (h : f_X5_merge_b9 rec9 v2 v3 v4 v5 v6 S = some r0) : Fr W_X5_merge S r0.2 := by
  have F : Fr W_X5_merge S S := Fr.rf
  unfold f_X5_merge_b9 at h
  rcases ite_or h with h | h
  · exact fr_end h F
  · rcases ite_or h with h | h
    · exact F.trans (fr_X5_merge_b65 v2 v3 v4 v5 v6 hrec9 S h)
    · rcases ite_or h with h | h
      · exact F.trans (fr_X5_merge_b45 v2 v3 v4 v5 v6 hrec9 S h)
      · replace h := (chk_some (chk_some h).2).2
        replace h := (chk_some (chk_some h).2).2
        rcases ite_or h with h | h
        · exact F.trans (fr_X5_merge_b65 v2 v3 v4 v5 v6 hrec9 S h)
        · exact F.trans (fr_X5_merge_b45 v2 v3 v4 v5 v6 hrec9 S h)
theorem fr_X5_merge_l9 (v2 : Int32) (v3 : Int32) : ∀ (n : Nat) (s : Int32 × Int32 × Int32 × St) (r : Unit × St), f_X5_merge_l9 v2 v3 n s = some r → Fr W_X5_merge (s.2.2.2) r.2 :=
  loop_sound (fun rec9 hrec9 s r h => fr_X5_merge_b9 v2 v3 s.1 s.2.1 s.2.2.1 hrec9 s.2.2.2 h)
theorem fr_X5_merge_b0 (a1 : Int32) (a2 : Int32) (a3 : Int32) (S : St) {r0 : Unit × St} (h : f_X5_merge_b0 a1 a2 a3 S = some r0) : Fr W_X5_merge S r0.2 := by
  have F : Fr W_X5_merge S S := Fr.rf
  unfold f_X5_merge_b0 at h
  exact F.trans (fr_X5_merge_l9 a2 a3 _ (a1, a2, a1, S) _ h)
theorem fr_X5_merge (a1 : Int32) (a2 : Int32) (a3 : Int32) (S : St) {r0 : Unit × St} (h : f_X5_merge a1 a2 a3 S = some r0) : Fr W_X5_merge S r0.2 := by
  have F : Fr W_X5_merge S S := Fr.rf
  unfold f_X5_merge at h
  exact F.trans (fr_X5_merge_b0 a1 a2 a3 S h)
def W_X5_keyOf : List Nat × List Nat × List Nat × Bool := ([], [], [], false)
theorem fr_X5_keyOf_b0 (a2 : Int32) (S : St) {r0 : Int64 × St} (h : f_X5_keyOf_b0 a2 S = some r0) : Fr W_X5_keyOf S r0.2 := by
  have F : Fr W_X5_keyOf S S := Fr.rf
  unfold f_X5_keyOf_b0 at h
  replace h := (chk_some h).2
  obtain ⟨y1, _, h⟩ := vlet_ex h
  replace h := (chk_some h).2
  obtain ⟨y2, _, h⟩ := vlet_ex h
  replace h := (chk_some h).2
  obtain ⟨y3, _, h⟩ := vlet_ex h
  exact fr_end h F
theorem fr_X5_keyOf (a2 : Int32) (S : St) {r0 : Int64 × St} (h : f_X5_keyOf a2 S = some r0) : Fr W_X5_keyOf S r0.2 := by
  have F : Fr W_X5_keyOf S S := Fr.rf
  unfold f_X5_keyOf at h
  exact F.trans (fr_X5_keyOf_b0 a2 S h)
def W_X5_sort : List Nat × List Nat × List Nat × Bool := ([], [], [], true)
theorem fr_X5_sort_b39 {rec31 : Int32 × St → Option (Unit × St)} {rec39 : Int32 × St → Option (Unit × St)} (v2 : Int32) (v3 : Int32) (v4 : Int32) (hrec31 : ∀ (s : Int32 × St) (r : Unit × St), rec31 s = some r → Fr W_X5_sort (s.2) r.2) (hrec39 : ∀ (s : Int32 × St) (r : Unit × St), rec39 s = some r → Fr W_X5_sort (s.2) r.2) (S : St) {r0 : Unit × St} (h : f_X5_sort_b39 rec31 rec39 v2 v3 v4 S = some r0) : Fr W_X5_sort S r0.2 := by
  have F : Fr W_X5_sort S S := Fr.rf
  unfold f_X5_sort_b39 at h
  rcases ite_or h with h | h
  · obtain ⟨n2, _, h⟩ := vlet_ex h
    obtain ⟨S3, e_, h⟩ := vlet_ex h
    replace F := F.trans (Fr.pR (w := W_X5_sort) e_ rfl)
    obtain ⟨S4, e_, h⟩ := vlet_ex h
    replace F := F.trans (Fr.pR (w := W_X5_sort) e_ rfl)
    obtain ⟨x5, _, h⟩ := vlet_ex h
    exact F.trans (hrec31 (x5, S4) _ h)
  · obtain ⟨⟨_u6, S6⟩, e_, h⟩ := bnd_some h
    replace F := F.trans ((fr_X5_merge v4 (imin (v4 + v3) v2) (imin (v4 + (2 * v3)) v2) _ e_).mono (w1 := W_X5_sort) rfl rfl rfl rfl)
    obtain ⟨x7, _, h⟩ := vlet_ex h
    exact F.trans (hrec39 (x7, S6) _ h)
theorem fr_X5_sort_l39 {rec31 : Int32 × St → Option (Unit × St)} (v2 : Int32) (v3 : Int32) (hrec31 : ∀ (s : Int32 × St) (r : Unit × St), rec31 s = some r → Fr W_X5_sort (s.2) r.2) : ∀ (n : Nat) (s : Int32 × St) (r : Unit × St), f_X5_sort_l39 rec31 v2 v3 n s = some r → Fr W_X5_sort (s.2) r.2 :=
  loop_sound (fun rec39 hrec39 s r h => fr_X5_sort_b39 v2 v3 s.1 hrec31 hrec39 s.2 h)
theorem fr_X5_sort_b31 {rec31 : Int32 × St → Option (Unit × St)} (v2 : Int32) (v3 : Int32) (hrec31 : ∀ (s : Int32 × St) (r : Unit × St), rec31 s = some r → Fr W_X5_sort (s.2) r.2) (S : St) {r0 : Unit × St} (h : f_X5_sort_b31 rec31 v2 v3 S = some r0) : Fr W_X5_sort S r0.2 := by
  have F : Fr W_X5_sort S S := Fr.rf
  unfold f_X5_sort_b31 at h
  rcases ite_or h with h | h
  · exact fr_end h F
  · exact F.trans (fr_X5_sort_l39 v2 v3 hrec31 _ (0, S) _ h)
theorem fr_X5_sort_l31 (v2 : Int32) : ∀ (n : Nat) (s : Int32 × St) (r : Unit × St), f_X5_sort_l31 v2 n s = some r → Fr W_X5_sort (s.2) r.2 :=
  loop_sound (fun rec31 hrec31 s r h => fr_X5_sort_b31 v2 s.1 hrec31 s.2 h)
theorem fr_X5_sort_b7 {rec7 : Int32 × St → Option (Unit × St)} (v2 : Int32) (v3 : Int32) (hrec7 : ∀ (s : Int32 × St) (r : Unit × St), rec7 s = some r → Fr W_X5_sort (s.2) r.2) (S : St) {r0 : Unit × St} (h : f_X5_sort_b7 rec7 v2 v3 S = some r0) : Fr W_X5_sort S r0.2 := by
  have F : Fr W_X5_sort S S := Fr.rf
  unfold f_X5_sort_b7 at h
  rcases ite_or h with h | h
  · exact F.trans (fr_X5_sort_l31 v2 _ (1, S) _ h)
  · obtain ⟨⟨r9, S8⟩, e_, h⟩ := bnd_some h
    replace F := F.trans ((fr_X5_keyOf v3 _ e_).mono (w1 := W_X5_sort) rfl rfl rfl rfl)
    obtain ⟨S10, e_, h⟩ := vlet_ex (chk_some (chk_some h).2).2
    replace F := F.trans (Fr.stoL (w := W_X5_sort) e_ rfl)
    exact F.trans (hrec7 (v3 + 1, S10) _ h)
theorem fr_X5_sort_l7 (v2 : Int32) : ∀ (n : Nat) (s : Int32 × St) (r : Unit × St), f_X5_sort_l7 v2 n s = some r → Fr W_X5_sort (s.2) r.2 :=
  loop_sound (fun rec7 hrec7 s r h => fr_X5_sort_b7 v2 s.1 hrec7 s.2 h)
theorem fr_X5_sort_b0 (S : St) {r0 : Unit × St} (h : f_X5_sort_b0 S = some r0) : Fr W_X5_sort S r0.2 := by
  have F : Fr W_X5_sort S S := Fr.rf
  unfold f_X5_sort_b0 at h
  obtain ⟨x1, _, h⟩ := vlet_ex h
  exact F.trans (fr_X5_sort_l7 x1 _ (0, S) _ h)
theorem fr_X5_sort (S : St) {r0 : Unit × St} (h : f_X5_sort S = some r0) : Fr W_X5_sort S r0.2 := by
  have F : Fr W_X5_sort S S := Fr.rf
  unfold f_X5_sort at h
  exact F.trans (fr_X5_sort_b0  S h)
def W_X5_partAt : List Nat × List Nat × List Nat × Bool := ([], [], [], false)
theorem fr_X5_partAt_b0 (a1 : Int32) (S : St) {r0 : Int32 × St} (h : f_X5_partAt_b0 a1 S = some r0) : Fr W_X5_partAt S r0.2 := by
  have F : Fr W_X5_partAt S S := Fr.rf
  unfold f_X5_partAt_b0 at h
  replace h := (chk_some (chk_some h).2).2
  obtain ⟨⟨r2, S1⟩, e_, h⟩ := bnd_some h
  replace F := F.trans ((fr_J9_floorMod_1978a (rdL S (gR S 0) a1) 400 _ e_).mono (w1 := W_X5_partAt) rfl rfl rfl rfl)
  exact fr_end h F
theorem fr_X5_partAt (a1 : Int32) (S : St) {r0 : Int32 × St} (h : f_X5_partAt a1 S = some r0) : Fr W_X5_partAt S r0.2 := by
  have F : Fr W_X5_partAt S S := Fr.rf
  unfold f_X5_partAt at h
  exact F.trans (fr_X5_partAt_b0 a1 S h)
def W_X1_takeInOrder : List Nat × List Nat × List Nat × Bool := ([21], [42, 43, 44, 45, 46, 47, 48], [], false)
theorem fr_X1_takeInOrder_b28 {rec10 : Int32 × St → Option (Unit × St)} {rec28 : Int32 × St → Option (Unit × St)} (v3 : Int32) (v4 : Int32) (v5 : Int32) (hrec10 : ∀ (s : Int32 × St) (r : Unit × St), rec10 s = some r → Fr W_X1_takeInOrder (s.2) r.2) (hrec28 : ∀ (s : Int32 × St) (r : Unit × St), rec28 s = some r → Fr W_X1_takeInOrder (s.2) r.2) (S : St) {r0 : Unit × St} (h : f_X1_takeInOrder_b28 rec10 rec28 v3 v4 v5 S = some r0) : Fr W_X1_takeInOrder S r0.2 := by
  have F : Fr W_X1_takeInOrder S S := Fr.rf
  unfold f_X1_takeInOrder_b28 at h
  rcases ite_or h with h | h
  · exact F.trans (hrec10 (v3 + 1, S) _ h)
  · obtain ⟨hn4, h⟩ := chk_some h
    obtain ⟨hn5, h⟩ := chk_some h
    replace h := (chk_some h).2
    obtain ⟨S6, e_, h⟩ := vlet_ex (chk_some h).2
    replace F := F.trans (Fr.stog (w := W_X1_takeInOrder) (b := 42) (n := 7) e_ (inb_lt2 hn4) rfl)
    exact F.trans (hrec28 (v5 + 1, S6) _ h)
theorem fr_X1_takeInOrder_l28 {rec10 : Int32 × St → Option (Unit × St)} (v3 : Int32) (v4 : Int32) (hrec10 : ∀ (s : Int32 × St) (r : Unit × St), rec10 s = some r → Fr W_X1_takeInOrder (s.2) r.2) : ∀ (n : Nat) (s : Int32 × St) (r : Unit × St), f_X1_takeInOrder_l28 rec10 v3 v4 n s = some r → Fr W_X1_takeInOrder (s.2) r.2 :=
  loop_sound (fun rec28 hrec28 s r h => fr_X1_takeInOrder_b28 v3 v4 s.1 hrec10 hrec28 s.2 h)
theorem fr_X1_takeInOrder_b10 {rec10 : Int32 × St → Option (Unit × St)} (v3 : Int32) (hrec10 : ∀ (s : Int32 × St) (r : Unit × St), rec10 s = some r → Fr W_X1_takeInOrder (s.2) r.2) (S : St) {r0 : Unit × St} (h : f_X1_takeInOrder_b10 rec10 v3 S = some r0) : Fr W_X1_takeInOrder S r0.2 := by
  have F : Fr W_X1_takeInOrder S S := Fr.rf
  unfold f_X1_takeInOrder_b10 at h
  rcases ite_or h with h | h
  · exact fr_end h F
  · obtain ⟨⟨r3, S2⟩, e_, h⟩ := bnd_some h
    replace F := F.trans ((fr_X5_partAt v3 _ e_).mono (w1 := W_X1_takeInOrder) rfl rfl rfl rfl)
    exact F.trans (fr_X1_takeInOrder_l28 v3 r3 hrec10 _ (0, S2) _ h)
theorem fr_X1_takeInOrder_l10 : ∀ (n : Nat) (s : Int32 × St) (r : Unit × St), f_X1_takeInOrder_l10 n s = some r → Fr W_X1_takeInOrder (s.2) r.2 :=
  loop_sound (fun rec10 hrec10 s r h => fr_X1_takeInOrder_b10 s.1 hrec10 s.2 h)
theorem fr_X1_takeInOrder_b0 (S : St) {r0 : Unit × St} (h : f_X1_takeInOrder_b0 S = some r0) : Fr W_X1_takeInOrder S r0.2 := by
  have F : Fr W_X1_takeInOrder S S := Fr.rf
  unfold f_X1_takeInOrder_b0 at h
  obtain ⟨S1, e_, h⟩ := vlet_ex h
  replace F := F.trans (Fr.pI (w := W_X1_takeInOrder) (k := 21) e_ rfl)
  exact F.trans (fr_X1_takeInOrder_l10  _ (0, S1) _ h)
theorem fr_X1_takeInOrder (S : St) {r0 : Unit × St} (h : f_X1_takeInOrder S = some r0) : Fr W_X1_takeInOrder S r0.2 := by
  have F : Fr W_X1_takeInOrder S S := Fr.rf
  unfold f_X1_takeInOrder at h
  exact F.trans (fr_X1_takeInOrder_b0  S h)
def W_X1_endOf : List Nat × List Nat × List Nat × Bool := ([], [], [], false)
theorem fr_X1_endOf_b0 (a1 : Int32) (S : St) {r0 : Int32 × St} (h : f_X1_endOf_b0 a1 S = some r0) : Fr W_X1_endOf S r0.2 := by
  have F : Fr W_X1_endOf S S := Fr.rf
  unfold f_X1_endOf_b0 at h
  replace h := (chk_some h).2
  replace h := (chk_some h).2
  exact fr_end h F
theorem fr_X1_endOf (a1 : Int32) (S : St) {r0 : Int32 × St} (h : f_X1_endOf a1 S = some r0) : Fr W_X1_endOf S r0.2 := by
  have F : Fr W_X1_endOf S S := Fr.rf
  unfold f_X1_endOf at h
  exact F.trans (fr_X1_endOf_b0 a1 S h)
def W_X1_repeats : List Nat × List Nat × List Nat × Bool := ([], [], [], false)
theorem fr_X1_repeats_b74 (w0 : Int32) (S : St) {r0 : Int32 × St} (h : f_X1_repeats_b74 w0 S = some r0) : Fr W_X1_repeats S r0.2 := by
  have F : Fr W_X1_repeats S S := Fr.rf
  unfold f_X1_repeats_b74 at h
  exact fr_end (chk_some h).2 F
theorem fr_X1_repeats_b73 (S : St) {r0 : Int32 × St} (h : f_X1_repeats_b73 S = some r0) : Fr W_X1_repeats S r0.2 := by
  have F : Fr W_X1_repeats S S := Fr.rf
  unfold f_X1_repeats_b73 at h
  exact F.trans (fr_X1_repeats_b74 0 S h)
theorem fr_X1_repeats_b45 (v1 : Int32) (v2 : Int32) (w0 : Int32) (S : St) {r0 : Int32 × St} (h : f_X1_repeats_b45 v1 v2 w0 S = some r0) : Fr W_X1_repeats S r0.2 := by
  have F : Fr W_X1_repeats S S := Fr.rf
  unfold f_X1_repeats_b45 at h
  rcases ite_or h with h | h
  · exact F.trans (fr_X1_repeats_b73  S h)
  · replace h := (chk_some h).2
    replace h := (chk_some h).2
    rcases ite_or h with h | h
    · exact F.trans (fr_X1_repeats_b73  S h)
    · exact F.trans (fr_X1_repeats_b74 1 S h)
theorem fr_X1_repeats_b44 (v1 : Int32) (v2 : Int32) (S : St) {r0 : Int32 × St} (h : f_X1_repeats_b44 v1 v2 S = some r0) : Fr W_X1_repeats S r0.2 := by
  have F : Fr W_X1_repeats S S := Fr.rf
  unfold f_X1_repeats_b44 at h
  exact F.trans (fr_X1_repeats_b45 v1 v2 0 S h)
theorem fr_X1_repeats_b0 (a1 : Int32) (a2 : Int32) (S : St) {r0 : Int32 × St} (h : f_X1_repeats_b0 a1 a2 S = some r0) : Fr W_X1_repeats S r0.2 := by
  have F : Fr W_X1_repeats S S := Fr.rf
  unfold f_X1_repeats_b0 at h
  replace h := (chk_some h).2
  replace h := (chk_some h).2
  rcases ite_or h with h | h
  · replace h := (chk_some h).2
    replace h := (chk_some h).2
    rcases ite_or h with h | h
    · exact F.trans (fr_X1_repeats_b45 a1 a2 1 S h)
    · exact F.trans (fr_X1_repeats_b44 a1 a2 S h)
  · exact F.trans (fr_X1_repeats_b44 a1 a2 S h)
theorem fr_X1_repeats (a1 : Int32) (a2 : Int32) (S : St) {r0 : Int32 × St} (h : f_X1_repeats a1 a2 S = some r0) : Fr W_X1_repeats S r0.2 := by
  have F : Fr W_X1_repeats S S := Fr.rf
  unfold f_X1_repeats at h
  exact F.trans (fr_X1_repeats_b0 a1 a2 S h)
def W_X1_endAtRepeat : List Nat × List Nat × List Nat × Bool := ([], [43], [], false)
theorem fr_X1_endAtRepeat_b71 (S : St) {r0 : Unit × St} (h : f_X1_endAtRepeat_b71 S = some r0) : Fr W_X1_endAtRepeat S r0.2 := by
  have F : Fr W_X1_endAtRepeat S S := Fr.rf
  unfold f_X1_endAtRepeat_b71 at h
  exact fr_end h F
theorem fr_X1_endAtRepeat_b10 {rec10 : Int32 × St → Option (Unit × St)} (v1 : Int32) (v2 : Int32) (v3 : Int32) (hrec10 : ∀ (s : Int32 × St) (r : Unit × St), rec10 s = some r → Fr W_X1_endAtRepeat (s.2) r.2) (S : St) {r0 : Unit × St} (h : f_X1_endAtRepeat_b10 rec10 v1 v2 v3 S = some r0) : Fr W_X1_endAtRepeat S r0.2 := by
  have F : Fr W_X1_endAtRepeat S S := Fr.rf
  unfold f_X1_endAtRepeat_b10 at h
  rcases ite_or h with h | h
  · exact F.trans (fr_X1_endAtRepeat_b71  S h)
  · replace h := (chk_some h).2
    rcases ite_or h with h | h
    · exact F.trans (fr_X1_endAtRepeat_b71  S h)
    · obtain ⟨⟨r5, S4⟩, e_, h⟩ := bnd_some h
      replace F := F.trans ((fr_X1_repeats v3 v1 _ e_).mono (w1 := W_X1_endAtRepeat) rfl rfl rfl rfl)
      rcases ite_or h with h | h
      · exact F.trans (hrec10 (v3 + 1, S4) _ h)
      · replace h := (chk_some h).2
        replace h := (chk_some h).2
        obtain ⟨S6, e_, h⟩ := vlet_ex (chk_some h).2
        replace F := F.trans (Fr.sto (w := W_X1_endAtRepeat) (k := 43) e_ rfl)
        exact fr_end h F
theorem fr_X1_endAtRepeat_l10 (v1 : Int32) (v2 : Int32) : ∀ (n : Nat) (s : Int32 × St) (r : Unit × St), f_X1_endAtRepeat_l10 v1 v2 n s = some r → Fr W_X1_endAtRepeat (s.2) r.2 :=
  loop_sound (fun rec10 hrec10 s r h => fr_X1_endAtRepeat_b10 v1 v2 s.1 hrec10 s.2 h)
theorem fr_X1_endAtRepeat_b0 (a1 : Int32) (S : St) {r0 : Unit × St} (h : f_X1_endAtRepeat_b0 a1 S = some r0) : Fr W_X1_endAtRepeat S r0.2 := by
  have F : Fr W_X1_endAtRepeat S S := Fr.rf
  unfold f_X1_endAtRepeat_b0 at h
  obtain ⟨⟨r2, S1⟩, e_, h⟩ := bnd_some h
  replace F := F.trans ((fr_X1_endOf a1 _ e_).mono (w1 := W_X1_endAtRepeat) rfl rfl rfl rfl)
  obtain ⟨x3, _, h⟩ := vlet_ex h
  exact F.trans (fr_X1_endAtRepeat_l10 a1 r2 _ (x3, S1) _ h)
theorem fr_X1_endAtRepeat (a1 : Int32) (S : St) {r0 : Unit × St} (h : f_X1_endAtRepeat a1 S = some r0) : Fr W_X1_endAtRepeat S r0.2 := by
  have F : Fr W_X1_endAtRepeat S S := Fr.rf
  unfold f_X1_endAtRepeat at h
  exact F.trans (fr_X1_endAtRepeat_b0 a1 S h)
def W_X1_endAtRepeats : List Nat × List Nat × List Nat × Bool := ([], [43], [], false)
theorem fr_X1_endAtRepeats_b2 {rec2 : Int32 × St → Option (Unit × St)} (v1 : Int32) (hrec2 : ∀ (s : Int32 × St) (r : Unit × St), rec2 s = some r → Fr W_X1_endAtRepeats (s.2) r.2) (S : St) {r0 : Unit × St} (h : f_X1_endAtRepeats_b2 rec2 v1 S = some r0) : Fr W_X1_endAtRepeats S r0.2 := by
  have F : Fr W_X1_endAtRepeats S S := Fr.rf
  unfold f_X1_endAtRepeats_b2 at h
  rcases ite_or h with h | h
  · exact fr_end h F
  · obtain ⟨⟨_u1, S1⟩, e_, h⟩ := bnd_some h
    replace F := F.trans ((fr_X1_endAtRepeat v1 _ e_).mono (w1 := W_X1_endAtRepeats) rfl rfl rfl rfl)
    exact F.trans (hrec2 (v1 + 1, S1) _ h)
theorem fr_X1_endAtRepeats_l2 : ∀ (n : Nat) (s : Int32 × St) (r : Unit × St), f_X1_endAtRepeats_l2 n s = some r → Fr W_X1_endAtRepeats (s.2) r.2 :=
  loop_sound (fun rec2 hrec2 s r h => fr_X1_endAtRepeats_b2 s.1 hrec2 s.2 h)
theorem fr_X1_endAtRepeats_b0 (S : St) {r0 : Unit × St} (h : f_X1_endAtRepeats_b0 S = some r0) : Fr W_X1_endAtRepeats S r0.2 := by
  have F : Fr W_X1_endAtRepeats S S := Fr.rf
  unfold f_X1_endAtRepeats_b0 at h
  exact F.trans (fr_X1_endAtRepeats_l2  _ (0, S) _ h)
theorem fr_X1_endAtRepeats (S : St) {r0 : Unit × St} (h : f_X1_endAtRepeats S = some r0) : Fr W_X1_endAtRepeats S r0.2 := by
  have F : Fr W_X1_endAtRepeats S S := Fr.rf
  unfold f_X1_endAtRepeats at h
  exact F.trans (fr_X1_endAtRepeats_b0  S h)
def W_X11_perform : List Nat × List Nat × List Nat × Bool := ([12, 13, 14, 15, 16, 17, 18, 19, 20, 21], [32, 33, 34, 35, 36, 37, 38, 42, 43, 44, 45, 46, 47, 48], [], true)
theorem fr_X11_perform_b0 (S : St) {r0 : Int32 × St} (h : f_X11_perform_b0 S = some r0) : Fr W_X11_perform S r0.2 := by
  have F : Fr W_X11_perform S S := Fr.rf
  unfold f_X11_perform_b0 at h
  obtain ⟨⟨r2, S1⟩, e_, h⟩ := bnd_some h
  replace F := F.trans ((fr_X6_makeParts (gJ S 0) _ e_).mono (w1 := W_X11_perform) rfl rfl rfl rfl)
  rcases ite_or h with h | h
  · exact fr_end h F
  · obtain ⟨⟨_u3, S3⟩, e_, h⟩ := bnd_some h
    replace F := F.trans ((fr_X1_bend _ e_).mono (w1 := W_X11_perform) rfl rfl rfl rfl)
    obtain ⟨⟨_u4, S4⟩, e_, h⟩ := bnd_some h
    replace F := F.trans ((fr_X5_sort _ e_).mono (w1 := W_X11_perform) rfl rfl rfl rfl)
    obtain ⟨⟨_u5, S5⟩, e_, h⟩ := bnd_some h
    replace F := F.trans ((fr_X1_takeInOrder _ e_).mono (w1 := W_X11_perform) rfl rfl rfl rfl)
    obtain ⟨⟨_u6, S6⟩, e_, h⟩ := bnd_some h
    replace F := F.trans ((fr_X1_endAtRepeats _ e_).mono (w1 := W_X11_perform) rfl rfl rfl rfl)
    exact fr_end h F
theorem fr_X11_perform (S : St) {r0 : Int32 × St} (h : f_X11_perform S = some r0) : Fr W_X11_perform S r0.2 := by
  have F : Fr W_X11_perform S S := Fr.rf
  unfold f_X11_perform at h
  exact F.trans (fr_X11_perform_b0  S h)
def W_X12_cut : List Nat × List Nat × List Nat × Bool := ([], [], [], false)
theorem fr_X12_cut_b144 {rec29 : Int32 × Int32 × St → Option (Int32 × St)} (v1 : Int32) (v2 : Int32) (v4 : Int32) (w0 : Int32) (hrec29 : ∀ (s : Int32 × Int32 × St) (r : Int32 × St), rec29 s = some r → Fr W_X12_cut (s.2.2) r.2) (S : St) {r0 : Int32 × St} (h : f_X12_cut_b144 rec29 v1 v2 v4 w0 S = some r0) : Fr W_X12_cut S r0.2 := by
  have F : Fr W_X12_cut S S := Fr.rf
  unfold f_X12_cut_b144 at h
  exact F.trans (hrec29 (w0, v4 + 1, S) _ h)
theorem fr_X12_cut_b143 {rec29 : Int32 × Int32 × St → Option (Int32 × St)} (v1 : Int32) (v2 : Int32) (v3 : Int32) (v4 : Int32) (hrec29 : ∀ (s : Int32 × Int32 × St) (r : Int32 × St), rec29 s = some r → Fr W_X12_cut (s.2.2) r.2) (S : St) {r0 : Int32 × St} (h : f_X12_cut_b143 rec29 v1 v2 v3 v4 S = some r0) : Fr W_X12_cut S r0.2 := by
  have F : Fr W_X12_cut S S := Fr.rf
  unfold f_X12_cut_b143 at h
  exact F.trans (fr_X12_cut_b144 v1 v2 v4 v3 hrec29 S h)
theorem fr_X12_cut_b105 {rec29 : Int32 × Int32 × St → Option (Int32 × St)} (v1 : Int32) (v2 : Int32) (v3 : Int32) (v4 : Int32) (w0 : Int32) (hrec29 : ∀ (s : Int32 × Int32 × St) (r : Int32 × St), rec29 s = some r → Fr W_X12_cut (s.2.2) r.2) (S : St) {r0 : Int32 × St} (h : f_X12_cut_b105 rec29 v1 v2 v3 v4 w0 S = some r0) : Fr W_X12_cut S r0.2 := by
  have F : Fr W_X12_cut S S := Fr.rf
  unfold f_X12_cut_b105 at h
  replace h := (chk_some h).2
  obtain ⟨x3, _, h⟩ := vlet_ex h
  rcases ite_or h with h | h
  · exact F.trans (fr_X12_cut_b143 v1 v2 v3 v4 hrec29 S h)
  · rcases ite_or h with h | h
    · exact F.trans (fr_X12_cut_b143 v1 v2 v3 v4 hrec29 S h)
    · rcases ite_or h with h | h
      · exact F.trans (fr_X12_cut_b143 v1 v2 v3 v4 hrec29 S h)
      · exact F.trans (fr_X12_cut_b144 v1 v2 v4 x3 hrec29 S h)
theorem fr_X12_cut_b104 {rec29 : Int32 × Int32 × St → Option (Int32 × St)} (v1 : Int32) (v2 : Int32) (v3 : Int32) (v4 : Int32) (hrec29 : ∀ (s : Int32 × Int32 × St) (r : Int32 × St), rec29 s = some r → Fr W_X12_cut (s.2.2) r.2) (S : St) {r0 : Int32 × St} (h : f_X12_cut_b104 rec29 v1 v2 v3 v4 S = some r0) : Fr W_X12_cut S r0.2 := by
  have F : Fr W_X12_cut S S := Fr.rf
  unfold f_X12_cut_b104 at h
  exact F.trans (fr_X12_cut_b105 v1 v2 v3 v4 0 hrec29 S h)
theorem fr_X12_cut_b29 {rec29 : Int32 × Int32 × St → Option (Int32 × St)} (v1 : Int32) (v2 : Int32) (v3 : Int32) (v4 : Int32) (hrec29 : ∀ (s : Int32 × Int32 × St) (r : Int32 × St), rec29 s = some r → Fr W_X12_cut (s.2.2) r.2) (S : St) {r0 : Int32 × St} (h : f_X12_cut_b29 rec29 v1 v2 v3 v4 S = some r0) : Fr W_X12_cut S r0.2 := by
  have F : Fr W_X12_cut S S := Fr.rf
  unfold f_X12_cut_b29 at h
  rcases ite_or h with h | h
  · exact fr_end h F
  · replace h := (chk_some h).2
    replace h := (chk_some h).2
    replace h := (chk_some h).2
    replace h := (chk_some h).2
    rcases ite_or h with h | h
    · replace h := (chk_some h).2
      replace h := (chk_some h).2
      rcases ite_or h with h | h
      · exact F.trans (fr_X12_cut_b105 v1 v2 v3 v4 1 hrec29 S h)
      · exact F.trans (fr_X12_cut_b104 v1 v2 v3 v4 hrec29 S h)
    · exact F.trans (fr_X12_cut_b104 v1 v2 v3 v4 hrec29 S h)
theorem fr_X12_cut_l29 (v1 : Int32) (v2 : Int32) : ∀ (n : Nat) (s : Int32 × Int32 × St) (r : Int32 × St), f_X12_cut_l29 v1 v2 n s = some r → Fr W_X12_cut (s.2.2) r.2 :=
  loop_sound (fun rec29 hrec29 s r h => fr_X12_cut_b29 v1 v2 s.1 s.2.1 hrec29 s.2.2 h)
theorem fr_X12_cut_b0 (a1 : Int32) (S : St) {r0 : Int32 × St} (h : f_X12_cut_b0 a1 S = some r0) : Fr W_X12_cut S r0.2 := by
  have F : Fr W_X12_cut S S := Fr.rf
  unfold f_X12_cut_b0 at h
  replace h := (chk_some h).2
  obtain ⟨x1, _, h⟩ := vlet_ex h
  replace h := (chk_some h).2
  obtain ⟨x2, _, h⟩ := vlet_ex h
  exact F.trans (fr_X12_cut_l29 a1 x1 _ (x2, 0, S) _ h)
theorem fr_X12_cut (a1 : Int32) (S : St) {r0 : Int32 × St} (h : f_X12_cut a1 S = some r0) : Fr W_X12_cut S r0.2 := by
  have F : Fr W_X12_cut S S := Fr.rf
  unfold f_X12_cut at h
  exact F.trans (fr_X12_cut_b0 a1 S h)
def W_X12_isAhead : List Nat × List Nat × List Nat × Bool := ([], [], [], false)
theorem fr_X12_isAhead_b144 (w0 : Int32) (S : St) {r0 : Int32 × St} (h : f_X12_isAhead_b144 w0 S = some r0) : Fr W_X12_isAhead S r0.2 := by
  have F : Fr W_X12_isAhead S S := Fr.rf
  unfold f_X12_isAhead_b144 at h
  exact fr_end (chk_some h).2 F
theorem fr_X12_isAhead_b118 (v1 : Int32) (v2 : Int32) (v3 : Int32) (S : St) {r0 : Int32 × St} (h : f_X12_isAhead_b118 v1 v2 v3 S = some r0) : Fr W_X12_isAhead S r0.2 := by
  have F : Fr W_X12_isAhead S S := Fr.rf
  unfold f_X12_isAhead_b118 at h
  rcases ite_or h with h | h
  · rcases ite_or h with h | h
    · exact F.trans (fr_X12_isAhead_b144 0 S h)
    · exact F.trans (fr_X12_isAhead_b144 1 S h)
  · rcases ite_or h with h | h
    · exact F.trans (fr_X12_isAhead_b144 0 S h)
    · exact F.trans (fr_X12_isAhead_b144 1 S h)
theorem fr_X12_isAhead_b90 (v1 : Int32) (v2 : Int32) (v3 : Int32) (S : St) {r0 : Int32 × St} (h : f_X12_isAhead_b90 v1 v2 v3 S = some r0) : Fr W_X12_isAhead S r0.2 := by
  have F : Fr W_X12_isAhead S S := Fr.rf
  unfold f_X12_isAhead_b90 at h
  rcases ite_or h with h | h
  · replace h := (chk_some h).2
    replace h := (chk_some h).2
    obtain ⟨x2, _, h⟩ := vlet_ex h
    exact F.trans (fr_X12_isAhead_b118 v1 v2 x2 S h)
  · exact F.trans (fr_X12_isAhead_b118 v1 v2 v3 S h)
theorem fr_X12_isAhead_b62 (v1 : Int32) (v2 : Int32) (v3 : Int32) (S : St) {r0 : Int32 × St} (h : f_X12_isAhead_b62 v1 v2 v3 S = some r0) : Fr W_X12_isAhead S r0.2 := by
  have F : Fr W_X12_isAhead S S := Fr.rf
  unfold f_X12_isAhead_b62 at h
  rcases ite_or h with h | h
  · replace h := (chk_some h).2
    replace h := (chk_some h).2
    obtain ⟨x3, _, h⟩ := vlet_ex h
    exact F.trans (fr_X12_isAhead_b90 v1 v2 x3 S h)
  · exact F.trans (fr_X12_isAhead_b90 v1 v2 v3 S h)
theorem fr_X12_isAhead_b0 (a1 : Int32) (a2 : Int32) (S : St) {r0 : Int32 × St} (h : f_X12_isAhead_b0 a1 a2 S = some r0) : Fr W_X12_isAhead S r0.2 := by
  have F : Fr W_X12_isAhead S S := Fr.rf
  unfold f_X12_isAhead_b0 at h
  replace h := (chk_some h).2
  replace h := (chk_some h).2
  obtain ⟨x1, _, h⟩ := vlet_ex h
  rcases ite_or h with h | h
  · replace h := (chk_some h).2
    replace h := (chk_some h).2
    replace h := (chk_some h).2
    replace h := (chk_some h).2
    obtain ⟨x4, _, h⟩ := vlet_ex h
    exact F.trans (fr_X12_isAhead_b62 a1 a2 x4 S h)
  · exact F.trans (fr_X12_isAhead_b62 a1 a2 x1 S h)
theorem fr_X12_isAhead (a1 : Int32) (a2 : Int32) (S : St) {r0 : Int32 × St} (h : f_X12_isAhead a1 a2 S = some r0) : Fr W_X12_isAhead S r0.2 := by
  have F : Fr W_X12_isAhead S S := Fr.rf
  unfold f_X12_isAhead at h
  exact F.trans (fr_X12_isAhead_b0 a1 a2 S h)
def W_X12_onOf : List Nat × List Nat × List Nat × Bool := ([], [], [], false)
theorem fr_X12_onOf_b92 (w0 : Int32) (S : St) {r0 : Int32 × St} (h : f_X12_onOf_b92 w0 S = some r0) : Fr W_X12_onOf S r0.2 := by
  have F : Fr W_X12_onOf S S := Fr.rf
  unfold f_X12_onOf_b92 at h
  exact fr_end h F
theorem fr_X12_onOf_b0 (a1 : Int32) (S : St) {r0 : Int32 × St} (h : f_X12_onOf_b0 a1 S = some r0) : Fr W_X12_onOf S r0.2 := by
  have F : Fr W_X12_onOf S S := Fr.rf
  unfold f_X12_onOf_b0 at h
  replace h := (chk_some h).2
  obtain ⟨⟨r2, S1⟩, e_, h⟩ := bnd_some h
  replace F := F.trans ((fr_X12_number (rd S 49 a1) 12 _ e_).mono (w1 := W_X12_onOf) rfl rfl rfl rfl)
  rcases ite_or h with h | h
  · replace h := (chk_some h).2
    exact fr_end h F
  · obtain ⟨y3, _, h⟩ := vlet_ex h
    obtain ⟨y4, _, h⟩ := vlet_ex h
    obtain ⟨y5, _, h⟩ := vlet_ex h
    replace h := (chk_some h).2
    replace h := (chk_some h).2
    obtain ⟨x6, _, h⟩ := vlet_ex h
    rcases ite_or h with h | h
    · exact F.trans (fr_X12_onOf_b92 x6 S1 h)
    · exact F.trans (fr_X12_onOf_b92 0 S1 h)
theorem fr_X12_onOf (a1 : Int32) (S : St) {r0 : Int32 × St} (h : f_X12_onOf a1 S = some r0) : Fr W_X12_onOf S r0.2 := by
  have F : Fr W_X12_onOf S S := Fr.rf
  unfold f_X12_onOf at h
  exact F.trans (fr_X12_onOf_b0 a1 S h)
def W_X12_has : List Nat × List Nat × List Nat × Bool := ([], [], [], false)
theorem fr_X12_has_b16 (w0 : Int32) (S : St) {r0 : Int32 × St} (h : f_X12_has_b16 w0 S = some r0) : Fr W_X12_has S r0.2 := by
  have F : Fr W_X12_has S S := Fr.rf
  unfold f_X12_has_b16 at h
  exact fr_end (chk_some h).2 F
theorem fr_X12_has_b0 (a1 : Int32) (a2 : Int32) (S : St) {r0 : Int32 × St} (h : f_X12_has_b0 a1 a2 S = some r0) : Fr W_X12_has S r0.2 := by
  have F : Fr W_X12_has S S := Fr.rf
  unfold f_X12_has_b0 at h
  replace h := (chk_some h).2
  rcases ite_or h with h | h
  · exact F.trans (fr_X12_has_b16 0 S h)
  · exact F.trans (fr_X12_has_b16 1 S h)
theorem fr_X12_has (a1 : Int32) (a2 : Int32) (S : St) {r0 : Int32 × St} (h : f_X12_has a1 a2 S = some r0) : Fr W_X12_has S r0.2 := by
  have F : Fr W_X12_has S S := Fr.rf
  unfold f_X12_has at h
  exact F.trans (fr_X12_has_b0 a1 a2 S h)
def W_X12_lesser : List Nat × List Nat × List Nat × Bool := ([], [], [], false)
theorem fr_X12_lesser_b10 (w0 : Int32) (S : St) {r0 : Int32 × St} (h : f_X12_lesser_b10 w0 S = some r0) : Fr W_X12_lesser S r0.2 := by
  have F : Fr W_X12_lesser S S := Fr.rf
  unfold f_X12_lesser_b10 at h
  exact fr_end h F
theorem fr_X12_lesser_b0 (a1 : Int32) (a2 : Int32) (S : St) {r0 : Int32 × St} (h : f_X12_lesser_b0 a1 a2 S = some r0) : Fr W_X12_lesser S r0.2 := by
  have F : Fr W_X12_lesser S S := Fr.rf
  unfold f_X12_lesser_b0 at h
  rcases ite_or h with h | h
  · exact F.trans (fr_X12_lesser_b10 a2 S h)
  · exact F.trans (fr_X12_lesser_b10 a1 S h)
theorem fr_X12_lesser (a1 : Int32) (a2 : Int32) (S : St) {r0 : Int32 × St} (h : f_X12_lesser a1 a2 S = some r0) : Fr W_X12_lesser S r0.2 := by
  have F : Fr W_X12_lesser S S := Fr.rf
  unfold f_X12_lesser at h
  exact F.trans (fr_X12_lesser_b0 a1 a2 S h)
def W_X12_longOf : List Nat × List Nat × List Nat × Bool := ([], [], [], false)
theorem fr_X12_longOf_b84 (w0 : Int32) (S : St) {r0 : Int32 × St} (h : f_X12_longOf_b84 w0 S = some r0) : Fr W_X12_longOf S r0.2 := by
  have F : Fr W_X12_longOf S S := Fr.rf
  unfold f_X12_longOf_b84 at h
  exact fr_end h F
theorem fr_X12_longOf_b34 (v1 : Int32) (w1 : Int32) (w2 : Int32) (S : St) {r0 : Int32 × St} (h : f_X12_longOf_b34 v1 w1 w2 S = some r0) : Fr W_X12_longOf S r0.2 := by
  have F : Fr W_X12_longOf S S := Fr.rf
  unfold f_X12_longOf_b34 at h
  obtain ⟨⟨r6, S5⟩, e_, h⟩ := bnd_some h
  replace F := F.trans ((fr_X12_number w1 w2 _ e_).mono (w1 := W_X12_longOf) rfl rfl rfl rfl)
  replace h := (chk_some h).2
  replace h := (chk_some h).2
  obtain ⟨x7, _, h⟩ := vlet_ex h
  replace h := (chk_some h).2
  obtain ⟨⟨r9, S8⟩, e_, h⟩ := bnd_some h
  replace F := F.trans ((fr_X12_number (rd S5 49 v1) 3 _ e_).mono (w1 := W_X12_longOf) rfl rfl rfl rfl)
  replace h := (chk_some h).2
  obtain ⟨⟨r11, S10⟩, e_, h⟩ := bnd_some h
  replace F := F.trans ((fr_X12_lesser r9 (rd S8 51 v1) _ e_).mono (w1 := W_X12_longOf) rfl rfl rfl rfl)
  rcases ite_or h with h | h
  · exact F.trans (fr_X12_longOf_b84 x7 S10 h)
  · exact F.trans (fr_X12_longOf_b84 r11 S10 h)
theorem fr_X12_longOf_b0 (a1 : Int32) (S : St) {r0 : Int32 × St} (h : f_X12_longOf_b0 a1 S = some r0) : Fr W_X12_longOf S r0.2 := by
  have F : Fr W_X12_longOf S S := Fr.rf
  unfold f_X12_longOf_b0 at h
  replace h := (chk_some h).2
  obtain ⟨⟨r2, S1⟩, e_, h⟩ := bnd_some h
  replace F := F.trans ((fr_X12_has a1 1 _ e_).mono (w1 := W_X12_longOf) rfl rfl rfl rfl)
  rcases ite_or h with h | h
  · obtain ⟨⟨r4, S3⟩, e_, h⟩ := bnd_some h
    replace F := F.trans ((fr_X12_has a1 2 _ e_).mono (w1 := W_X12_longOf) rfl rfl rfl rfl)
    rcases ite_or h with h | h
    · exact F.trans (fr_X12_longOf_b34 a1 (rd S 49 a1) 1 S3 h)
    · exact F.trans (fr_X12_longOf_b34 a1 (rd S 49 a1) 2 S3 h)
  · exact F.trans (fr_X12_longOf_b34 a1 (rd S 49 a1) 0 S1 h)
theorem fr_X12_longOf (a1 : Int32) (S : St) {r0 : Int32 × St} (h : f_X12_longOf a1 S = some r0) : Fr W_X12_longOf S r0.2 := by
  have F : Fr W_X12_longOf S S := Fr.rf
  unfold f_X12_longOf at h
  exact F.trans (fr_X12_longOf_b0 a1 S h)
def W_X12_loudOf : List Nat × List Nat × List Nat × Bool := ([], [], [], false)
theorem fr_X12_loudOf_b119 (w0 : Int32) (S : St) {r0 : Int32 × St} (h : f_X12_loudOf_b119 w0 S = some r0) : Fr W_X12_loudOf S r0.2 := by
  have F : Fr W_X12_loudOf S S := Fr.rf
  unfold f_X12_loudOf_b119 at h
  exact fr_end h F
theorem fr_X12_loudOf_b102 (w0 : Int32) (w1 : Int32) (S : St) {r0 : Int32 × St} (h : f_X12_loudOf_b102 w0 w1 S = some r0) : Fr W_X12_loudOf S r0.2 := by
  have F : Fr W_X12_loudOf S S := Fr.rf
  unfold f_X12_loudOf_b102 at h
  obtain ⟨x6, _, h⟩ := vlet_ex h
  rcases ite_or h with h | h
  · obtain ⟨⟨r8, S7⟩, e_, h⟩ := bnd_some h
    replace F := F.trans ((fr_X12_lesser x6 127 _ e_).mono (w1 := W_X12_loudOf) rfl rfl rfl rfl)
    exact F.trans (fr_X12_loudOf_b119 r8 S7 h)
  · exact F.trans (fr_X12_loudOf_b119 1 S h)
theorem fr_X12_loudOf_b36 (v1 : Int32) (w0 : Int32) (w1 : Int32) (S : St) {r0 : Int32 × St} (h : f_X12_loudOf_b36 v1 w0 w1 S = some r0) : Fr W_X12_loudOf S r0.2 := by
  have F : Fr W_X12_loudOf S S := Fr.rf
  unfold f_X12_loudOf_b36 at h
  obtain ⟨x5, _, h⟩ := vlet_ex h
  replace h := (chk_some h).2
  replace h := (chk_some h).2
  rcases ite_or h with h | h
  · replace h := (chk_some h).2
    obtain ⟨⟨r12, S11⟩, e_, h⟩ := bnd_some h
    replace F := F.trans ((fr_X12_number (rd S 49 v1) 5 _ e_).mono (w1 := W_X12_loudOf) rfl rfl rfl rfl)
    exact F.trans (fr_X12_loudOf_b102 x5 r12 S11 h)
  · replace h := (chk_some h).2
    replace h := (chk_some h).2
    rcases ite_or h with h | h
    · replace h := (chk_some h).2
      obtain ⟨⟨r10, S9⟩, e_, h⟩ := bnd_some h
      replace F := F.trans ((fr_X12_number (rd S 49 v1) 6 _ e_).mono (w1 := W_X12_loudOf) rfl rfl rfl rfl)
      exact F.trans (fr_X12_loudOf_b102 x5 r10 S9 h)
    · exact F.trans (fr_X12_loudOf_b102 x5 0 S h)
theorem fr_X12_loudOf_b0 (a1 : Int32) (S : St) {r0 : Int32 × St} (h : f_X12_loudOf_b0 a1 S = some r0) : Fr W_X12_loudOf S r0.2 := by
  have F : Fr W_X12_loudOf S S := Fr.rf
  unfold f_X12_loudOf_b0 at h
  replace h := (chk_some h).2
  obtain ⟨⟨r2, S1⟩, e_, h⟩ := bnd_some h
  replace F := F.trans ((fr_X12_highAt (rd S 50 a1) _ e_).mono (w1 := W_X12_loudOf) rfl rfl rfl rfl)
  obtain ⟨⟨r4, S3⟩, e_, h⟩ := bnd_some h
  replace F := F.trans ((fr_X12_has a1 4 _ e_).mono (w1 := W_X12_loudOf) rfl rfl rfl rfl)
  rcases ite_or h with h | h
  · exact F.trans (fr_X12_loudOf_b36 a1 r2 0 S3 h)
  · replace h := (chk_some h).2
    obtain ⟨⟨r14, S13⟩, e_, h⟩ := bnd_some h
    replace F := F.trans ((fr_X12_number (rd S3 49 a1) 4 _ e_).mono (w1 := W_X12_loudOf) rfl rfl rfl rfl)
    exact F.trans (fr_X12_loudOf_b36 a1 r2 r14 S13 h)
theorem fr_X12_loudOf (a1 : Int32) (S : St) {r0 : Int32 × St} (h : f_X12_loudOf a1 S = some r0) : Fr W_X12_loudOf S r0.2 := by
  have F : Fr W_X12_loudOf S S := Fr.rf
  unfold f_X12_loudOf at h
  exact F.trans (fr_X12_loudOf_b0 a1 S h)
def W_X12_sounds : List Nat × List Nat × List Nat × Bool := ([33, 35, 36], [65], [], false)
theorem fr_X12_sounds_b146 (v5 : Int32) (S : St) {r0 : Unit × St} (h : f_X12_sounds_b146 v5 S = some r0) : Fr W_X12_sounds S r0.2 := by
  have F : Fr W_X12_sounds S S := Fr.rf
  unfold f_X12_sounds_b146 at h
  obtain ⟨S1, e_, h⟩ := vlet_ex h
  replace F := F.trans (Fr.pI (w := W_X12_sounds) (k := 33) e_ rfl)
  obtain ⟨S2, e_, h⟩ := vlet_ex h
  replace F := F.trans (Fr.pI (w := W_X12_sounds) (k := 35) e_ rfl)
  obtain ⟨S3, e_, h⟩ := vlet_ex h
  replace F := F.trans (Fr.pI (w := W_X12_sounds) (k := 36) e_ rfl)
  exact fr_end h F
theorem fr_X12_sounds_b77 (v1 : Int32) (v2 : Int32) (v3 : Int32) (v4 : Int32) (v5 : Int32) (w1 : Int32) (w2 : Int32) (S : St) {r0 : Unit × St} (h : f_X12_sounds_b77 v1 v2 v3 v4 v5 w1 w2 S = some r0) : Fr W_X12_sounds S r0.2 := by
  have F : Fr W_X12_sounds S S := Fr.rf
  unfold f_X12_sounds_b77 at h
  obtain ⟨S10, e_, h⟩ := vlet_ex (chk_some h).2
  replace F := F.trans (Fr.sto (w := W_X12_sounds) (k := 65) e_ rfl)
  replace h := (chk_some h).2
  obtain ⟨S11, e_, h⟩ := vlet_ex (chk_some h).2
  replace F := F.trans (Fr.sto (w := W_X12_sounds) (k := 65) e_ rfl)
  obtain ⟨S12, e_, h⟩ := vlet_ex (chk_some h).2
  replace F := F.trans (Fr.sto (w := W_X12_sounds) (k := 65) e_ rfl)
  obtain ⟨S13, e_, h⟩ := vlet_ex (chk_some h).2
  replace F := F.trans (Fr.sto (w := W_X12_sounds) (k := 65) e_ rfl)
  obtain ⟨S14, e_, h⟩ := vlet_ex (chk_some h).2
  replace F := F.trans (Fr.sto (w := W_X12_sounds) (k := 65) e_ rfl)
  exact F.trans (fr_X12_sounds_b146 v5 S14 h)
theorem fr_X12_sounds_b0 (a1 : Int32) (a2 : Int32) (a3 : Int32) (a4 : Int32) (a5 : Int32) (S : St) {r0 : Unit × St} (h : f_X12_sounds_b0 a1 a2 a3 a4 a5 S = some r0) : Fr W_X12_sounds S r0.2 := by
  have F : Fr W_X12_sounds S S := Fr.rf
  unfold f_X12_sounds_b0 at h
  rcases ite_or h with h | h
  · exact F.trans (fr_X12_sounds_b146 a5 S h)
  · obtain ⟨⟨r5, S4⟩, e_, h⟩ := bnd_some h
    replace F := F.trans ((fr_X12_time (gI S 35) _ e_).mono (w1 := W_X12_sounds) rfl rfl rfl rfl)
    obtain ⟨⟨r7, S6⟩, e_, h⟩ := bnd_some h
    replace F := F.trans ((fr_X12_time ((gI S4 35) + a5) _ e_).mono (w1 := W_X12_sounds) rfl rfl rfl rfl)
    obtain ⟨x8, _, h⟩ := vlet_ex h
    obtain ⟨S9, e_, h⟩ := vlet_ex (chk_some h).2
    replace F := F.trans (Fr.sto (w := W_X12_sounds) (k := 65) e_ rfl)
    rcases ite_or h with h | h
    · exact F.trans (fr_X12_sounds_b77 a1 a2 a3 a4 a5 ((6 * (gI S9 33)) + 1) x8 S9 h)
    · exact F.trans (fr_X12_sounds_b77 a1 a2 a3 a4 a5 ((6 * (gI S9 33)) + 1) 1 S9 h)
theorem fr_X12_sounds (a1 : Int32) (a2 : Int32) (a3 : Int32) (a4 : Int32) (a5 : Int32) (S : St) {r0 : Unit × St} (h : f_X12_sounds a1 a2 a3 a4 a5 S = some r0) : Fr W_X12_sounds S r0.2 := by
  have F : Fr W_X12_sounds S S := Fr.rf
  unfold f_X12_sounds at h
  exact F.trans (fr_X12_sounds_b0 a1 a2 a3 a4 a5 S h)
def W_X12_trill : List Nat × List Nat × List Nat × Bool := ([33, 35, 36], [65], [], false)
theorem fr_X12_trill_b85 {rec38 : Int32 × St → Option (Unit × St)} (v1 : Int32) (v2 : Int32) (v4 : Int32) (v5 : Int32) (v6 : Int32) (w1 : Int32) (w2 : Int32) (w3 : Int32) (w4 : Int32) (w5 : Int32) (hrec38 : ∀ (s : Int32 × St) (r : Unit × St), rec38 s = some r → Fr W_X12_trill (s.2) r.2) (S : St) {r0 : Unit × St} (h : f_X12_trill_b85 rec38 v1 v2 v4 v5 v6 w1 w2 w3 w4 w5 S = some r0) : Fr W_X12_trill S r0.2 := by
  have F : Fr W_X12_trill S S := Fr.rf
  unfold f_X12_trill_b85 at h
  obtain ⟨⟨_u3, S3⟩, e_, h⟩ := bnd_some h
  replace F := F.trans ((fr_X12_sounds w1 w2 w3 w4 w5 _ e_).mono (w1 := W_X12_trill) rfl rfl rfl rfl)
  exact F.trans (hrec38 (v6 + 1, S3) _ h)
theorem fr_X12_trill_b64 {rec38 : Int32 × St → Option (Unit × St)} (v1 : Int32) (v2 : Int32) (v4 : Int32) (v5 : Int32) (v6 : Int32) (w1 : Int32) (w2 : Int32) (w3 : Int32) (hrec38 : ∀ (s : Int32 × St) (r : Unit × St), rec38 s = some r → Fr W_X12_trill (s.2) r.2) (S : St) {r0 : Unit × St} (h : f_X12_trill_b64 rec38 v1 v2 v4 v5 v6 w1 w2 w3 S = some r0) : Fr W_X12_trill S r0.2 := by
  have F : Fr W_X12_trill S S := Fr.rf
  unfold f_X12_trill_b64 at h
  rcases ite_or h with h | h
  · exact F.trans (fr_X12_trill_b85 v1 v2 v4 v5 v6 w1 w2 w3 (gI S 37) (gI S 36) hrec38 S h)
  · exact F.trans (fr_X12_trill_b85 v1 v2 v4 v5 v6 w1 w2 w3 (gI S 37) v2 hrec38 S h)
theorem fr_X12_trill_b38 {rec38 : Int32 × St → Option (Unit × St)} (v1 : Int32) (v2 : Int32) (v4 : Int32) (v5 : Int32) (v6 : Int32) (hrec38 : ∀ (s : Int32 × St) (r : Unit × St), rec38 s = some r → Fr W_X12_trill (s.2) r.2) (S : St) {r0 : Unit × St} (h : f_X12_trill_b38 rec38 v1 v2 v4 v5 v6 S = some r0) : Fr W_X12_trill S r0.2 := by
  have F : Fr W_X12_trill S S := Fr.rf
  unfold f_X12_trill_b38 at h
  rcases ite_or h with h | h
  · exact fr_end h F
  · replace h := (chk_some h).2
    rcases ite_or h with h | h
    · exact F.trans (fr_X12_trill_b64 v1 v2 v4 v5 v6 v1 2 2 hrec38 S h)
    · exact F.trans (fr_X12_trill_b64 v1 v2 v4 v5 v6 v1 2 0 hrec38 S h)
theorem fr_X12_trill_l38 (v1 : Int32) (v2 : Int32) (v4 : Int32) (v5 : Int32) : ∀ (n : Nat) (s : Int32 × St) (r : Unit × St), f_X12_trill_l38 v1 v2 v4 v5 n s = some r → Fr W_X12_trill (s.2) r.2 :=
  loop_sound (fun rec38 hrec38 s r h => fr_X12_trill_b38 v1 v2 v4 v5 s.1 hrec38 s.2 h)
theorem fr_X12_trill_b33 (v1 : Int32) (v2 : Int32) (v4 : Int32) (w0 : Int32) (S : St) {r0 : Unit × St} (h : f_X12_trill_b33 v1 v2 v4 w0 S = some r0) : Fr W_X12_trill S r0.2 := by
  have F : Fr W_X12_trill S S := Fr.rf
  unfold f_X12_trill_b33 at h
  exact F.trans (fr_X12_trill_l38 v1 v2 v4 w0 _ (0, S) _ h)
theorem fr_X12_trill_b0 (a1 : Int32) (a2 : Int32) (a3 : Int32) (S : St) {r0 : Unit × St} (h : f_X12_trill_b0 a1 a2 a3 S = some r0) : Fr W_X12_trill S r0.2 := by
  have F : Fr W_X12_trill S S := Fr.rf
  unfold f_X12_trill_b0 at h
  replace h := (chk_some h).2
  obtain ⟨⟨r2, S1⟩, e_, h⟩ := bnd_some h
  replace F := F.trans ((fr_X12_number (rd S 49 a1) 8 _ e_).mono (w1 := W_X12_trill) rfl rfl rfl rfl)
  replace h := (chk_some h).2
  rcases ite_or h with h | h
  · exact F.trans (fr_X12_trill_b33 a1 a2 r2 (a3 - 1) S1 h)
  · exact F.trans (fr_X12_trill_b33 a1 a2 r2 a3 S1 h)
theorem fr_X12_trill (a1 : Int32) (a2 : Int32) (a3 : Int32) (S : St) {r0 : Unit × St} (h : f_X12_trill a1 a2 a3 S = some r0) : Fr W_X12_trill S r0.2 := by
  have F : Fr W_X12_trill S S := Fr.rf
  unfold f_X12_trill at h
  exact F.trans (fr_X12_trill_b0 a1 a2 a3 S h)
def W_X12_rolledAhead : List Nat × List Nat × List Nat × Bool := ([], [], [], false)
theorem fr_X12_rolledAhead_b110 {rec4 : Int32 × Int32 × St → Option (Int32 × St)} (v1 : Int32) (v3 : Int32) (w0 : Int32) (w1 : Int32) (hrec4 : ∀ (s : Int32 × Int32 × St) (r : Int32 × St), rec4 s = some r → Fr W_X12_rolledAhead (s.2.2) r.2) (S : St) {r0 : Int32 × St} (h : f_X12_rolledAhead_b110 rec4 v1 v3 w0 w1 S = some r0) : Fr W_X12_rolledAhead S r0.2 := by
  have F : Fr W_X12_rolledAhead S S := Fr.rf
  unfold f_X12_rolledAhead_b110 at h
  obtain ⟨x1, _, h⟩ := vlet_ex h
  exact F.trans (hrec4 (x1, v3 + 1, S) _ h)
theorem fr_X12_rolledAhead_b109 {rec4 : Int32 × Int32 × St → Option (Int32 × St)} (v1 : Int32) (v3 : Int32) (w0 : Int32) (hrec4 : ∀ (s : Int32 × Int32 × St) (r : Int32 × St), rec4 s = some r → Fr W_X12_rolledAhead (s.2.2) r.2) (S : St) {r0 : Int32 × St} (h : f_X12_rolledAhead_b109 rec4 v1 v3 w0 S = some r0) : Fr W_X12_rolledAhead S r0.2 := by
  have F : Fr W_X12_rolledAhead S S := Fr.rf
  unfold f_X12_rolledAhead_b109 at h
  exact F.trans (fr_X12_rolledAhead_b110 v1 v3 w0 0 hrec4 S h)
theorem fr_X12_rolledAhead_b105 {rec4 : Int32 × Int32 × St → Option (Int32 × St)} (v1 : Int32) (v3 : Int32) (w0 : Int32) (hrec4 : ∀ (s : Int32 × Int32 × St) (r : Int32 × St), rec4 s = some r → Fr W_X12_rolledAhead (s.2.2) r.2) (S : St) {r0 : Int32 × St} (h : f_X12_rolledAhead_b105 rec4 v1 v3 w0 S = some r0) : Fr W_X12_rolledAhead S r0.2 := by
  have F : Fr W_X12_rolledAhead S S := Fr.rf
  unfold f_X12_rolledAhead_b105 at h
  exact F.trans (fr_X12_rolledAhead_b110 v1 v3 w0 1 hrec4 S h)
theorem fr_X12_rolledAhead_b62 {rec4 : Int32 × Int32 × St → Option (Int32 × St)} (v1 : Int32) (v2 : Int32) (v3 : Int32) (w0 : Int32) (hrec4 : ∀ (s : Int32 × Int32 × St) (r : Int32 × St), rec4 s = some r → Fr W_X12_rolledAhead (s.2.2) r.2) (S : St) {r0 : Int32 × St} (h : f_X12_rolledAhead_b62 rec4 v1 v2 v3 w0 S = some r0) : Fr W_X12_rolledAhead S r0.2 := by
  have F : Fr W_X12_rolledAhead S S := Fr.rf
  unfold f_X12_rolledAhead_b62 at h
  rcases ite_or h with h | h
  · exact F.trans (fr_X12_rolledAhead_b109 v1 v3 v2 hrec4 S h)
  · replace h := (chk_some h).2
    replace h := (chk_some h).2
    rcases ite_or h with h | h
    · exact F.trans (fr_X12_rolledAhead_b105 v1 v3 v2 hrec4 S h)
    · replace h := (chk_some h).2
      replace h := (chk_some h).2
      rcases ite_or h with h | h
      · rcases ite_or h with h | h
        · exact F.trans (fr_X12_rolledAhead_b109 v1 v3 v2 hrec4 S h)
        · exact F.trans (fr_X12_rolledAhead_b105 v1 v3 v2 hrec4 S h)
      · exact F.trans (fr_X12_rolledAhead_b109 v1 v3 v2 hrec4 S h)
theorem fr_X12_rolledAhead_b61 {rec4 : Int32 × Int32 × St → Option (Int32 × St)} (v1 : Int32) (v2 : Int32) (v3 : Int32) (hrec4 : ∀ (s : Int32 × Int32 × St) (r : Int32 × St), rec4 s = some r → Fr W_X12_rolledAhead (s.2.2) r.2) (S : St) {r0 : Int32 × St} (h : f_X12_rolledAhead_b61 rec4 v1 v2 v3 S = some r0) : Fr W_X12_rolledAhead S r0.2 := by
  have F : Fr W_X12_rolledAhead S S := Fr.rf
  unfold f_X12_rolledAhead_b61 at h
  exact F.trans (fr_X12_rolledAhead_b62 v1 v2 v3 0 hrec4 S h)
theorem fr_X12_rolledAhead_b4 {rec4 : Int32 × Int32 × St → Option (Int32 × St)} (v1 : Int32) (v2 : Int32) (v3 : Int32) (hrec4 : ∀ (s : Int32 × Int32 × St) (r : Int32 × St), rec4 s = some r → Fr W_X12_rolledAhead (s.2.2) r.2) (S : St) {r0 : Int32 × St} (h : f_X12_rolledAhead_b4 rec4 v1 v2 v3 S = some r0) : Fr W_X12_rolledAhead S r0.2 := by
  have F : Fr W_X12_rolledAhead S S := Fr.rf
  unfold f_X12_rolledAhead_b4 at h
  rcases ite_or h with h | h
  · exact fr_end h F
  · rcases ite_or h with h | h
    · exact F.trans (fr_X12_rolledAhead_b61 v1 v2 v3 hrec4 S h)
    · obtain ⟨⟨r3, S2⟩, e_, h⟩ := bnd_some h
      replace F := F.trans ((fr_X12_has v3 64 _ e_).mono (w1 := W_X12_rolledAhead) rfl rfl rfl rfl)
      rcases ite_or h with h | h
      · exact F.trans (fr_X12_rolledAhead_b61 v1 v2 v3 hrec4 S2 h)
      · replace h := (chk_some h).2
        replace h := (chk_some h).2
        rcases ite_or h with h | h
        · replace h := (chk_some h).2
          replace h := (chk_some h).2
          rcases ite_or h with h | h
          · exact F.trans (fr_X12_rolledAhead_b62 v1 v2 v3 1 hrec4 S2 h)
          · exact F.trans (fr_X12_rolledAhead_b61 v1 v2 v3 hrec4 S2 h)
        · exact F.trans (fr_X12_rolledAhead_b61 v1 v2 v3 hrec4 S2 h)
theorem fr_X12_rolledAhead_l4 (v1 : Int32) : ∀ (n : Nat) (s : Int32 × Int32 × St) (r : Int32 × St), f_X12_rolledAhead_l4 v1 n s = some r → Fr W_X12_rolledAhead (s.2.2) r.2 :=
  loop_sound (fun rec4 hrec4 s r h => fr_X12_rolledAhead_b4 v1 s.1 s.2.1 hrec4 s.2.2 h)
theorem fr_X12_rolledAhead_b0 (a1 : Int32) (S : St) {r0 : Int32 × St} (h : f_X12_rolledAhead_b0 a1 S = some r0) : Fr W_X12_rolledAhead S r0.2 := by
  have F : Fr W_X12_rolledAhead S S := Fr.rf
  unfold f_X12_rolledAhead_b0 at h
  exact F.trans (fr_X12_rolledAhead_l4 a1 _ (0, 0, S) _ h)
theorem fr_X12_rolledAhead (a1 : Int32) (S : St) {r0 : Int32 × St} (h : f_X12_rolledAhead a1 S = some r0) : Fr W_X12_rolledAhead S r0.2 := by
  have F : Fr W_X12_rolledAhead S S := Fr.rf
  unfold f_X12_rolledAhead at h
  exact F.trans (fr_X12_rolledAhead_b0 a1 S h)
def W_X12_performNote : List Nat × List Nat × List Nat × Bool := ([33, 35, 36, 37], [65], [], false)
theorem fr_X12_performNote_b299 (S : St) {r0 : Unit × St} (h : f_X12_performNote_b299 S = some r0) : Fr W_X12_performNote S r0.2 := by
  have F : Fr W_X12_performNote S S := Fr.rf
  unfold f_X12_performNote_b299 at h
  exact fr_end h F
theorem fr_X12_performNote_b284 (v1 : Int32) (S : St) {r0 : Unit × St} (h : f_X12_performNote_b284 v1 S = some r0) : Fr W_X12_performNote S r0.2 := by
  have F : Fr W_X12_performNote S S := Fr.rf
  unfold f_X12_performNote_b284 at h
  obtain ⟨⟨_u20, S20⟩, e_, h⟩ := bnd_some h
  replace F := F.trans ((fr_X12_sounds v1 0 0 (gI S 37) (gI S 36) _ e_).mono (w1 := W_X12_performNote) rfl rfl rfl rfl)
  exact F.trans (fr_X12_performNote_b299  S20 h)
theorem fr_X12_performNote_b201 (v1 : Int32) (S : St) {r0 : Unit × St} (h : f_X12_performNote_b201 v1 S = some r0) : Fr W_X12_performNote S r0.2 := by
  have F : Fr W_X12_performNote S S := Fr.rf
  unfold f_X12_performNote_b201 at h
  obtain ⟨⟨r19, S18⟩, e_, h⟩ := bnd_some h
  replace F := F.trans ((fr_X12_has v1 16 _ e_).mono (w1 := W_X12_performNote) rfl rfl rfl rfl)
  rcases ite_or h with h | h
  · exact F.trans (fr_X12_performNote_b284 v1 S18 h)
  · rcases ite_or h with h | h
    · exact F.trans (fr_X12_performNote_b284 v1 S18 h)
    · replace h := (chk_some h).2
      obtain ⟨⟨r22, S21⟩, e_, h⟩ := bnd_some h
      replace F := F.trans ((fr_X12_number (rd S18 49 v1) 9 _ e_).mono (w1 := W_X12_performNote) rfl rfl rfl rfl)
      replace h := (chk_some h).2
      obtain ⟨⟨r24, S23⟩, e_, h⟩ := bnd_some h
      replace F := F.trans ((fr_X12_lesser r22 ((gI S21 36) / 3) _ e_).mono (w1 := W_X12_performNote) rfl rfl rfl rfl)
      obtain ⟨⟨_u25, S25⟩, e_, h⟩ := bnd_some h
      replace F := F.trans ((fr_X12_sounds v1 3 0 (gI S23 37) r24 _ e_).mono (w1 := W_X12_performNote) rfl rfl rfl rfl)
      obtain ⟨⟨_u26, S26⟩, e_, h⟩ := bnd_some h
      replace F := F.trans ((fr_X12_sounds v1 3 (-2) (gI S25 37) r24 _ e_).mono (w1 := W_X12_performNote) rfl rfl rfl rfl)
      obtain ⟨⟨_u27, S27⟩, e_, h⟩ := bnd_some h
      replace F := F.trans ((fr_X12_sounds v1 3 0 (gI S26 37) (gI S26 36) _ e_).mono (w1 := W_X12_performNote) rfl rfl rfl rfl)
      exact F.trans (fr_X12_performNote_b299  S27 h)
theorem fr_X12_performNote_b153 (v1 : Int32) (S : St) {r0 : Unit × St} (h : f_X12_performNote_b153 v1 S = some r0) : Fr W_X12_performNote S r0.2 := by
  have F : Fr W_X12_performNote S S := Fr.rf
  unfold f_X12_performNote_b153 at h
  replace h := (chk_some h).2
  obtain ⟨⟨r15, S14⟩, e_, h⟩ := bnd_some h
  replace F := F.trans ((fr_X12_number (rd S 49 v1) 7 _ e_).mono (w1 := W_X12_performNote) rfl rfl rfl rfl)
  obtain ⟨⟨r17, S16⟩, e_, h⟩ := bnd_some h
  replace F := F.trans ((fr_X12_has v1 8 _ e_).mono (w1 := W_X12_performNote) rfl rfl rfl rfl)
  rcases ite_or h with h | h
  · exact F.trans (fr_X12_performNote_b201 v1 S16 h)
  · replace h := (chk_some h).2
    rcases ite_or h with h | h
    · exact F.trans (fr_X12_performNote_b201 v1 S16 h)
    · replace h := (chk_some h).2
      obtain ⟨⟨_u28, S28⟩, e_, h⟩ := bnd_some h
      replace F := F.trans ((fr_X12_trill v1 r15 ((gI S16 36) / r15) _ e_).mono (w1 := W_X12_performNote) rfl rfl rfl rfl)
      exact F.trans (fr_X12_performNote_b299  S28 h)
theorem fr_X12_performNote_b149 (v1 : Int32) (v2 : Int32) (w1 : Int32) (w2 : Int32) (w3 : Int32) (w4 : Int32) (S : St) {r0 : Unit × St} (h : f_X12_performNote_b149 v1 v2 w1 w2 w3 w4 S = some r0) : Fr W_X12_performNote S r0.2 := by
  have F : Fr W_X12_performNote S S := Fr.rf
  unfold f_X12_performNote_b149 at h
  obtain ⟨⟨_u33, S33⟩, e_, h⟩ := bnd_some h
  replace F := F.trans ((fr_X12_sounds w1 w2 w3 w4 v2 _ e_).mono (w1 := W_X12_performNote) rfl rfl rfl rfl)
  exact F.trans (fr_X12_performNote_b153 v1 S33 h)
theorem fr_X12_performNote_b85 (v1 : Int32) (S : St) {r0 : Unit × St} (h : f_X12_performNote_b85 v1 S = some r0) : Fr W_X12_performNote S r0.2 := by
  have F : Fr W_X12_performNote S S := Fr.rf
  unfold f_X12_performNote_b85 at h
  obtain ⟨⟨r13, S12⟩, e_, h⟩ := bnd_some h
  replace F := F.trans ((fr_X12_has v1 32 _ e_).mono (w1 := W_X12_performNote) rfl rfl rfl rfl)
  rcases ite_or h with h | h
  · exact F.trans (fr_X12_performNote_b153 v1 S12 h)
  · replace h := (chk_some h).2
    obtain ⟨⟨r30, S29⟩, e_, h⟩ := bnd_some h
    replace F := F.trans ((fr_X12_number (rd S12 49 v1) 10 _ e_).mono (w1 := W_X12_performNote) rfl rfl rfl rfl)
    replace h := (chk_some h).2
    obtain ⟨⟨r32, S31⟩, e_, h⟩ := bnd_some h
    replace F := F.trans ((fr_X12_lesser r30 ((gI S29 36) / 2) _ e_).mono (w1 := W_X12_performNote) rfl rfl rfl rfl)
    rcases ite_or h with h | h
    · exact F.trans (fr_X12_performNote_b153 v1 S31 h)
    · replace h := (chk_some h).2
      rcases ite_or h with h | h
      · replace h := (chk_some h).2
        exact F.trans (fr_X12_performNote_b149 v1 r32 v1 1 2 (((gI S31 37) * 3) / 4) S31 h)
      · exact F.trans (fr_X12_performNote_b149 v1 r32 v1 1 2 1 S31 h)
theorem fr_X12_performNote_b0 (a1 : Int32) (S : St) {r0 : Unit × St} (h : f_X12_performNote_b0 a1 S = some r0) : Fr W_X12_performNote S r0.2 := by
  have F : Fr W_X12_performNote S S := Fr.rf
  unfold f_X12_performNote_b0 at h
  obtain ⟨⟨r2, S1⟩, e_, h⟩ := bnd_some h
  replace F := F.trans ((fr_X12_onOf a1 _ e_).mono (w1 := W_X12_performNote) rfl rfl rfl rfl)
  obtain ⟨S3, e_, h⟩ := vlet_ex h
  replace F := F.trans (Fr.pI (w := W_X12_performNote) (k := 35) e_ rfl)
  obtain ⟨⟨r5, S4⟩, e_, h⟩ := bnd_some h
  replace F := F.trans ((fr_X12_longOf a1 _ e_).mono (w1 := W_X12_performNote) rfl rfl rfl rfl)
  obtain ⟨S6, e_, h⟩ := vlet_ex h
  replace F := F.trans (Fr.pI (w := W_X12_performNote) (k := 36) e_ rfl)
  obtain ⟨⟨r8, S7⟩, e_, h⟩ := bnd_some h
  replace F := F.trans ((fr_X12_loudOf a1 _ e_).mono (w1 := W_X12_performNote) rfl rfl rfl rfl)
  obtain ⟨S9, e_, h⟩ := vlet_ex h
  replace F := F.trans (Fr.pI (w := W_X12_performNote) (k := 37) e_ rfl)
  obtain ⟨⟨r11, S10⟩, e_, h⟩ := bnd_some h
  replace F := F.trans ((fr_X12_has a1 64 _ e_).mono (w1 := W_X12_performNote) rfl rfl rfl rfl)
  rcases ite_or h with h | h
  · exact F.trans (fr_X12_performNote_b85 a1 S10 h)
  · obtain ⟨⟨r35, S34⟩, e_, h⟩ := bnd_some h
    replace F := F.trans ((fr_X12_rolledAhead a1 _ e_).mono (w1 := W_X12_performNote) rfl rfl rfl rfl)
    replace h := (chk_some h).2
    obtain ⟨⟨r37, S36⟩, e_, h⟩ := bnd_some h
    replace F := F.trans ((fr_X12_number (rd S34 49 a1) 11 _ e_).mono (w1 := W_X12_performNote) rfl rfl rfl rfl)
    obtain ⟨⟨r39, S38⟩, e_, h⟩ := bnd_some h
    replace F := F.trans ((fr_X12_lesser (r35 * r37) ((gI S36 36) - 1) _ e_).mono (w1 := W_X12_performNote) rfl rfl rfl rfl)
    obtain ⟨S40, e_, h⟩ := vlet_ex h
    replace F := F.trans (Fr.pI (w := W_X12_performNote) (k := 35) e_ rfl)
    obtain ⟨S41, e_, h⟩ := vlet_ex h
    replace F := F.trans (Fr.pI (w := W_X12_performNote) (k := 36) e_ rfl)
    exact F.trans (fr_X12_performNote_b85 a1 S41 h)
theorem fr_X12_performNote (a1 : Int32) (S : St) {r0 : Unit × St} (h : f_X12_performNote a1 S = some r0) : Fr W_X12_performNote S r0.2 := by
  have F : Fr W_X12_performNote S S := Fr.rf
  unfold f_X12_performNote at h
  exact F.trans (fr_X12_performNote_b0 a1 S h)
def W_X12_perform : List Nat × List Nat × List Nat × Bool := ([33, 34, 35, 36, 37], [65, 66], [], false)
theorem fr_X12_perform_b95 {rec50 : Int32 × St → Option (Int32 × St)} {rec95 : Int32 × St → Option (Int32 × St)} (v1 : Int32) (v2 : Int32) (v3 : Int32) (hrec50 : ∀ (s : Int32 × St) (r : Int32 × St), rec50 s = some r → Fr W_X12_perform (s.2) r.2) (hrec95 : ∀ (s : Int32 × St) (r : Int32 × St), rec95 s = some r → Fr W_X12_perform (s.2) r.2) (S : St) {r0 : Int32 × St} (h : f_X12_perform_b95 rec50 rec95 v1 v2 v3 S = some r0) : Fr W_X12_perform S r0.2 := by
  have F : Fr W_X12_perform S S := Fr.rf
  unfold f_X12_perform_b95 at h
  rcases ite_or h with h | h
  · obtain ⟨⟨r4, S3⟩, e_, h⟩ := bnd_some h
    replace F := F.trans ((fr_X12_cut v1 _ e_).mono (w1 := W_X12_perform) rfl rfl rfl rfl)
    obtain ⟨S5, e_, h⟩ := vlet_ex (chk_some h).2
    replace F := F.trans (Fr.sto (w := W_X12_perform) (k := 66) e_ rfl)
    exact F.trans (hrec50 (v1 + 1, S5) _ h)
  · replace h := (chk_some h).2
    obtain ⟨S6, e_, h⟩ := vlet_ex (chk_some h).2
    replace F := F.trans (Fr.sto (w := W_X12_perform) (k := 66) e_ rfl)
    exact F.trans (hrec95 (v3 + 1, S6) _ h)
theorem fr_X12_perform_l95 {rec50 : Int32 × St → Option (Int32 × St)} (v1 : Int32) (v2 : Int32) (hrec50 : ∀ (s : Int32 × St) (r : Int32 × St), rec50 s = some r → Fr W_X12_perform (s.2) r.2) : ∀ (n : Nat) (s : Int32 × St) (r : Int32 × St), f_X12_perform_l95 rec50 v1 v2 n s = some r → Fr W_X12_perform (s.2) r.2 :=
  loop_sound (fun rec95 hrec95 s r h => fr_X12_perform_b95 v1 v2 s.1 hrec50 hrec95 s.2 h)
theorem fr_X12_perform_b85 {rec50 : Int32 × St → Option (Int32 × St)} {rec62 : Int32 × Int32 × St → Option (Int32 × St)} (v1 : Int32) (v3 : Int32) (w0 : Int32) (w1 : Int32) (hrec50 : ∀ (s : Int32 × St) (r : Int32 × St), rec50 s = some r → Fr W_X12_perform (s.2) r.2) (hrec62 : ∀ (s : Int32 × Int32 × St) (r : Int32 × St), rec62 s = some r → Fr W_X12_perform (s.2.2) r.2) (S : St) {r0 : Int32 × St} (h : f_X12_perform_b85 rec50 rec62 v1 v3 w0 w1 S = some r0) : Fr W_X12_perform S r0.2 := by
  have F : Fr W_X12_perform S S := Fr.rf
  unfold f_X12_perform_b85 at h
  obtain ⟨x9, _, h⟩ := vlet_ex h
  exact F.trans (hrec62 (x9, v3 + 1, S) _ h)
theorem fr_X12_perform_b62 {rec50 : Int32 × St → Option (Int32 × St)} {rec62 : Int32 × Int32 × St → Option (Int32 × St)} (v1 : Int32) (v2 : Int32) (v3 : Int32) (hrec50 : ∀ (s : Int32 × St) (r : Int32 × St), rec50 s = some r → Fr W_X12_perform (s.2) r.2) (hrec62 : ∀ (s : Int32 × Int32 × St) (r : Int32 × St), rec62 s = some r → Fr W_X12_perform (s.2.2) r.2) (S : St) {r0 : Int32 × St} (h : f_X12_perform_b62 rec50 rec62 v1 v2 v3 S = some r0) : Fr W_X12_perform S r0.2 := by
  have F : Fr W_X12_perform S S := Fr.rf
  unfold f_X12_perform_b62 at h
  rcases ite_or h with h | h
  · exact F.trans (fr_X12_perform_l95 v1 v2 hrec50 _ (0, S) _ h)
  · obtain ⟨⟨r8, S7⟩, e_, h⟩ := bnd_some h
    replace F := F.trans ((fr_X12_isAhead v3 v1 _ e_).mono (w1 := W_X12_perform) rfl rfl rfl rfl)
    rcases ite_or h with h | h
    · exact F.trans (fr_X12_perform_b85 v1 v3 v2 0 hrec50 hrec62 S7 h)
    · exact F.trans (fr_X12_perform_b85 v1 v3 v2 1 hrec50 hrec62 S7 h)
theorem fr_X12_perform_l62 {rec50 : Int32 × St → Option (Int32 × St)} (v1 : Int32) (hrec50 : ∀ (s : Int32 × St) (r : Int32 × St), rec50 s = some r → Fr W_X12_perform (s.2) r.2) : ∀ (n : Nat) (s : Int32 × Int32 × St) (r : Int32 × St), f_X12_perform_l62 rec50 v1 n s = some r → Fr W_X12_perform (s.2.2) r.2 :=
  loop_sound (fun rec62 hrec62 s r h => fr_X12_perform_b62 v1 s.1 s.2.1 hrec50 hrec62 s.2.2 h)
theorem fr_X12_perform_b50 {rec50 : Int32 × St → Option (Int32 × St)} (v1 : Int32) (hrec50 : ∀ (s : Int32 × St) (r : Int32 × St), rec50 s = some r → Fr W_X12_perform (s.2) r.2) (S : St) {r0 : Int32 × St} (h : f_X12_perform_b50 rec50 v1 S = some r0) : Fr W_X12_perform S r0.2 := by
  have F : Fr W_X12_perform S S := Fr.rf
  unfold f_X12_perform_b50 at h
  rcases ite_or h with h | h
  · exact fr_end h F
  · exact F.trans (fr_X12_perform_l62 v1 hrec50 _ (0, 0, S) _ h)
theorem fr_X12_perform_l50 : ∀ (n : Nat) (s : Int32 × St) (r : Int32 × St), f_X12_perform_l50 n s = some r → Fr W_X12_perform (s.2) r.2 :=
  loop_sound (fun rec50 hrec50 s r h => fr_X12_perform_b50 s.1 hrec50 s.2 h)
theorem fr_X12_perform_b7 {rec7 : Int32 × St → Option (Int32 × St)} (v1 : Int32) (hrec7 : ∀ (s : Int32 × St) (r : Int32 × St), rec7 s = some r → Fr W_X12_perform (s.2) r.2) (S : St) {r0 : Int32 × St} (h : f_X12_perform_b7 rec7 v1 S = some r0) : Fr W_X12_perform S r0.2 := by
  have F : Fr W_X12_perform S S := Fr.rf
  unfold f_X12_perform_b7 at h
  rcases ite_or h with h | h
  · rcases ite_or h with h | h
    · obtain ⟨S2, e_, h⟩ := vlet_ex h
      replace F := F.trans (Fr.pI (w := W_X12_perform) (k := 34) e_ rfl)
      exact F.trans (fr_X12_perform_l50  _ (0, S2) _ h)
    · exact fr_end h F
  · obtain ⟨⟨_u10, S10⟩, e_, h⟩ := bnd_some h
    replace F := F.trans ((fr_X12_performNote v1 _ e_).mono (w1 := W_X12_perform) rfl rfl rfl rfl)
    exact F.trans (hrec7 (v1 + 1, S10) _ h)
theorem fr_X12_perform_l7 : ∀ (n : Nat) (s : Int32 × St) (r : Int32 × St), f_X12_perform_l7 n s = some r → Fr W_X12_perform (s.2) r.2 :=
  loop_sound (fun rec7 hrec7 s r h => fr_X12_perform_b7 s.1 hrec7 s.2 h)
theorem fr_X12_perform_b0 (S : St) {r0 : Int32 × St} (h : f_X12_perform_b0 S = some r0) : Fr W_X12_perform S r0.2 := by
  have F : Fr W_X12_perform S S := Fr.rf
  unfold f_X12_perform_b0 at h
  obtain ⟨S1, e_, h⟩ := vlet_ex h
  replace F := F.trans (Fr.pI (w := W_X12_perform) (k := 33) e_ rfl)
  exact F.trans (fr_X12_perform_l7  _ (0, S1) _ h)
theorem fr_X12_perform (S : St) {r0 : Int32 × St} (h : f_X12_perform S = some r0) : Fr W_X12_perform S r0.2 := by
  have F : Fr W_X12_perform S S := Fr.rf
  unfold f_X12_perform at h
  exact F.trans (fr_X12_perform_b0  S h)
def W_X1_has : List Nat × List Nat × List Nat × Bool := ([], [], [], false)
theorem fr_X1_has_b0 (a1 : Int32) (S : St) {r0 : Int32 × St} (h : f_X1_has_b0 a1 S = some r0) : Fr W_X1_has S r0.2 := by
  have F : Fr W_X1_has S S := Fr.rf
  unfold f_X1_has_b0 at h
  obtain ⟨⟨r2, S1⟩, e_, h⟩ := bnd_some h
  replace F := F.trans ((fr_X11_isWithin a1 0 ((gI S 21) - 1) _ e_).mono (w1 := W_X1_has) rfl rfl rfl rfl)
  exact fr_end (chk_some h).2 F
theorem fr_X1_has (a1 : Int32) (S : St) {r0 : Int32 × St} (h : f_X1_has a1 S = some r0) : Fr W_X1_has S r0.2 := by
  have F : Fr W_X1_has S S := Fr.rf
  unfold f_X1_has at h
  exact F.trans (fr_X1_has_b0 a1 S h)
def W_X11_event : List Nat × List Nat × List Nat × Bool := ([], [], [], false)
theorem fr_X11_event_b38 (w0 : Int32) (S : St) {r0 : Int32 × St} (h : f_X11_event_b38 w0 S = some r0) : Fr W_X11_event S r0.2 := by
  have F : Fr W_X11_event S S := Fr.rf
  unfold f_X11_event_b38 at h
  exact fr_end h F
theorem fr_X11_event_b35 (S : St) {r0 : Int32 × St} (h : f_X11_event_b35 S = some r0) : Fr W_X11_event S r0.2 := by
  have F : Fr W_X11_event S S := Fr.rf
  unfold f_X11_event_b35 at h
  exact F.trans (fr_X11_event_b38 (-1001) S h)
theorem fr_X11_event_b0 (a1 : Int32) (a2 : Int32) (S : St) {r0 : Int32 × St} (h : f_X11_event_b0 a1 a2 S = some r0) : Fr W_X11_event S r0.2 := by
  have F : Fr W_X11_event S S := Fr.rf
  unfold f_X11_event_b0 at h
  obtain ⟨⟨r2, S1⟩, e_, h⟩ := bnd_some h
  replace F := F.trans ((fr_X1_has a1 _ e_).mono (w1 := W_X11_event) rfl rfl rfl rfl)
  rcases ite_or h with h | h
  · exact F.trans (fr_X11_event_b35  S1 h)
  · obtain ⟨⟨r4, S3⟩, e_, h⟩ := bnd_some h
    replace F := F.trans ((fr_X11_isWithin a2 0 6 _ e_).mono (w1 := W_X11_event) rfl rfl rfl rfl)
    rcases ite_or h with h | h
    · exact F.trans (fr_X11_event_b35  S3 h)
    · obtain ⟨hn5, h⟩ := chk_some h
      replace h := (chk_some h).2
      exact F.trans (fr_X11_event_b38 (rd S3 (42 + Int32.toNatClampNeg a2) a1) S3 h)
theorem fr_X11_event (a1 : Int32) (a2 : Int32) (S : St) {r0 : Int32 × St} (h : f_X11_event a1 a2 S = some r0) : Fr W_X11_event S r0.2 := by
  have F : Fr W_X11_event S S := Fr.rf
  unfold f_X11_event at h
  exact F.trans (fr_X11_event_b0 a1 a2 S h)
def W_X12_event : List Nat × List Nat × List Nat × Bool := ([], [], [], false)
theorem fr_X12_event_b28 (S : St) {r0 : Int32 × St} (h : f_X12_event_b28 S = some r0) : Fr W_X12_event S r0.2 := by
  have F : Fr W_X12_event S S := Fr.rf
  unfold f_X12_event_b28 at h
  exact fr_end h F
theorem fr_X12_event_b68 (w0 : Int32) (S : St) {r0 : Int32 × St} (h : f_X12_event_b68 w0 S = some r0) : Fr W_X12_event S r0.2 := by
  have F : Fr W_X12_event S S := Fr.rf
  unfold f_X12_event_b68 at h
  exact fr_end h F
theorem fr_X12_event_b0 (a1 : Int32) (a2 : Int32) (S : St) {r0 : Int32 × St} (h : f_X12_event_b0 a1 a2 S = some r0) : Fr W_X12_event S r0.2 := by
  have F : Fr W_X12_event S S := Fr.rf
  unfold f_X12_event_b0 at h
  obtain ⟨⟨r2, S1⟩, e_, h⟩ := bnd_some h
  replace F := F.trans ((fr_X12_in (Int32.toInt64 a1) 0 (Int32.toInt64 ((gI S 34) - 1)) _ e_).mono (w1 := W_X12_event) rfl rfl rfl rfl)
  rcases ite_or h with h | h
  · exact F.trans (fr_X12_event_b28  S1 h)
  · obtain ⟨⟨r4, S3⟩, e_, h⟩ := bnd_some h
    replace F := F.trans ((fr_X12_in (Int32.toInt64 a2) 0 6 _ e_).mono (w1 := W_X12_event) rfl rfl rfl rfl)
    rcases ite_or h with h | h
    · exact F.trans (fr_X12_event_b28  S3 h)
    · rcases ite_or h with h | h
      · replace h := (chk_some h).2
        replace h := (chk_some h).2
        exact F.trans (fr_X12_event_b68 (rd S3 49 (rd S3 66 ((6 * a1) + 4))) S3 h)
      · replace h := (chk_some h).2
        exact F.trans (fr_X12_event_b68 (rd S3 66 ((6 * a1) + a2)) S3 h)
theorem fr_X12_event (a1 : Int32) (a2 : Int32) (S : St) {r0 : Int32 × St} (h : f_X12_event a1 a2 S = some r0) : Fr W_X12_event S r0.2 := by
  have F : Fr W_X12_event S S := Fr.rf
  unfold f_X12_event at h
  exact F.trans (fr_X12_event_b0 a1 a2 S h)
def W_X1_soundingAt : List Nat × List Nat × List Nat × Bool := ([], [], [], false)
theorem fr_X1_soundingAt_b36 {rec4 : Int32 × Int32 × St → Option (Int32 × St)} (v1 : Int32) (v2 : Int32) (v3 : Int32) (hrec4 : ∀ (s : Int32 × Int32 × St) (r : Int32 × St), rec4 s = some r → Fr W_X1_soundingAt (s.2.2) r.2) (S : St) {r0 : Int32 × St} (h : f_X1_soundingAt_b36 rec4 v1 v2 v3 S = some r0) : Fr W_X1_soundingAt S r0.2 := by
  have F : Fr W_X1_soundingAt S S := Fr.rf
  unfold f_X1_soundingAt_b36 at h
  exact F.trans (hrec4 (v2, v3 + 1, S) _ h)
theorem fr_X1_soundingAt_b4 {rec4 : Int32 × Int32 × St → Option (Int32 × St)} (v1 : Int32) (v2 : Int32) (v3 : Int32) (hrec4 : ∀ (s : Int32 × Int32 × St) (r : Int32 × St), rec4 s = some r → Fr W_X1_soundingAt (s.2.2) r.2) (S : St) {r0 : Int32 × St} (h : f_X1_soundingAt_b4 rec4 v1 v2 v3 S = some r0) : Fr W_X1_soundingAt S r0.2 := by
  have F : Fr W_X1_soundingAt S S := Fr.rf
  unfold f_X1_soundingAt_b4 at h
  rcases ite_or h with h | h
  · exact fr_end h F
  · replace h := (chk_some h).2
    rcases ite_or h with h | h
    · exact F.trans (fr_X1_soundingAt_b36 v1 v2 v3 hrec4 S h)
    · obtain ⟨⟨r2, S1⟩, e_, h⟩ := bnd_some h
      replace F := F.trans ((fr_X1_endOf v3 _ e_).mono (w1 := W_X1_soundingAt) rfl rfl rfl rfl)
      rcases ite_or h with h | h
      · exact F.trans (fr_X1_soundingAt_b36 v1 v2 v3 hrec4 S1 h)
      · exact F.trans (fr_X1_soundingAt_b36 v1 (v2 + 1) v3 hrec4 S1 h)
theorem fr_X1_soundingAt_l4 (v1 : Int32) : ∀ (n : Nat) (s : Int32 × Int32 × St) (r : Int32 × St), f_X1_soundingAt_l4 v1 n s = some r → Fr W_X1_soundingAt (s.2.2) r.2 :=
  loop_sound (fun rec4 hrec4 s r h => fr_X1_soundingAt_b4 v1 s.1 s.2.1 hrec4 s.2.2 h)
theorem fr_X1_soundingAt_b0 (a1 : Int32) (S : St) {r0 : Int32 × St} (h : f_X1_soundingAt_b0 a1 S = some r0) : Fr W_X1_soundingAt S r0.2 := by
  have F : Fr W_X1_soundingAt S S := Fr.rf
  unfold f_X1_soundingAt_b0 at h
  exact F.trans (fr_X1_soundingAt_l4 a1 _ (0, 0, S) _ h)
theorem fr_X1_soundingAt (a1 : Int32) (S : St) {r0 : Int32 × St} (h : f_X1_soundingAt a1 S = some r0) : Fr W_X1_soundingAt S r0.2 := by
  have F : Fr W_X1_soundingAt S S := Fr.rf
  unfold f_X1_soundingAt at h
  exact F.trans (fr_X1_soundingAt_b0 a1 S h)
def W_X11_sounding : List Nat × List Nat × List Nat × Bool := ([], [], [], false)
theorem fr_X11_sounding_b0 (a1 : Int32) (S : St) {r0 : Int32 × St} (h : f_X11_sounding_b0 a1 S = some r0) : Fr W_X11_sounding S r0.2 := by
  have F : Fr W_X11_sounding S S := Fr.rf
  unfold f_X11_sounding_b0 at h
  obtain ⟨⟨r2, S1⟩, e_, h⟩ := bnd_some h
  replace F := F.trans ((fr_X1_soundingAt a1 _ e_).mono (w1 := W_X11_sounding) rfl rfl rfl rfl)
  exact fr_end h F
theorem fr_X11_sounding (a1 : Int32) (S : St) {r0 : Int32 × St} (h : f_X11_sounding a1 S = some r0) : Fr W_X11_sounding S r0.2 := by
  have F : Fr W_X11_sounding S S := Fr.rf
  unfold f_X11_sounding at h
  exact F.trans (fr_X11_sounding_b0 a1 S h)
def W_X12_sounding : List Nat × List Nat × List Nat × Bool := ([], [], [], false)
theorem fr_X12_sounding_b56 {rec4 : Int32 × Int32 × St → Option (Int32 × St)} (v1 : Int32) (v3 : Int32) (w0 : Int32) (w1 : Int32) (hrec4 : ∀ (s : Int32 × Int32 × St) (r : Int32 × St), rec4 s = some r → Fr W_X12_sounding (s.2.2) r.2) (S : St) {r0 : Int32 × St} (h : f_X12_sounding_b56 rec4 v1 v3 w0 w1 S = some r0) : Fr W_X12_sounding S r0.2 := by
  have F : Fr W_X12_sounding S S := Fr.rf
  unfold f_X12_sounding_b56 at h
  obtain ⟨x1, _, h⟩ := vlet_ex h
  exact F.trans (hrec4 (x1, v3 + 1, S) _ h)
theorem fr_X12_sounding_b55 {rec4 : Int32 × Int32 × St → Option (Int32 × St)} (v1 : Int32) (v3 : Int32) (w0 : Int32) (hrec4 : ∀ (s : Int32 × Int32 × St) (r : Int32 × St), rec4 s = some r → Fr W_X12_sounding (s.2.2) r.2) (S : St) {r0 : Int32 × St} (h : f_X12_sounding_b55 rec4 v1 v3 w0 S = some r0) : Fr W_X12_sounding S r0.2 := by
  have F : Fr W_X12_sounding S S := Fr.rf
  unfold f_X12_sounding_b55 at h
  exact F.trans (fr_X12_sounding_b56 v1 v3 w0 0 hrec4 S h)
theorem fr_X12_sounding_b4 {rec4 : Int32 × Int32 × St → Option (Int32 × St)} (v1 : Int32) (v2 : Int32) (v3 : Int32) (hrec4 : ∀ (s : Int32 × Int32 × St) (r : Int32 × St), rec4 s = some r → Fr W_X12_sounding (s.2.2) r.2) (S : St) {r0 : Int32 × St} (h : f_X12_sounding_b4 rec4 v1 v2 v3 S = some r0) : Fr W_X12_sounding S r0.2 := by
  have F : Fr W_X12_sounding S S := Fr.rf
  unfold f_X12_sounding_b4 at h
  rcases ite_or h with h | h
  · exact fr_end h F
  · replace h := (chk_some h).2
    rcases ite_or h with h | h
    · exact F.trans (fr_X12_sounding_b55 v1 v3 v2 hrec4 S h)
    · replace h := (chk_some h).2
      replace h := (chk_some h).2
      rcases ite_or h with h | h
      · exact F.trans (fr_X12_sounding_b55 v1 v3 v2 hrec4 S h)
      · exact F.trans (fr_X12_sounding_b56 v1 v3 v2 1 hrec4 S h)
theorem fr_X12_sounding_l4 (v1 : Int32) : ∀ (n : Nat) (s : Int32 × Int32 × St) (r : Int32 × St), f_X12_sounding_l4 v1 n s = some r → Fr W_X12_sounding (s.2.2) r.2 :=
  loop_sound (fun rec4 hrec4 s r h => fr_X12_sounding_b4 v1 s.1 s.2.1 hrec4 s.2.2 h)
theorem fr_X12_sounding_b0 (a1 : Int32) (S : St) {r0 : Int32 × St} (h : f_X12_sounding_b0 a1 S = some r0) : Fr W_X12_sounding S r0.2 := by
  have F : Fr W_X12_sounding S S := Fr.rf
  unfold f_X12_sounding_b0 at h
  exact F.trans (fr_X12_sounding_l4 a1 _ (0, 0, S) _ h)
theorem fr_X12_sounding (a1 : Int32) (S : St) {r0 : Int32 × St} (h : f_X12_sounding a1 S = some r0) : Fr W_X12_sounding S r0.2 := by
  have F : Fr W_X12_sounding S S := Fr.rf
  unfold f_X12_sounding at h
  exact F.trans (fr_X12_sounding_b0 a1 S h)
def W_X1_howManyOf : List Nat × List Nat × List Nat × Bool := ([], [], [], false)
theorem fr_X1_howManyOf_b27 {rec4 : Int32 × Int32 × St → Option (Int32 × St)} (v1 : Int32) (v2 : Int32) (v3 : Int32) (hrec4 : ∀ (s : Int32 × Int32 × St) (r : Int32 × St), rec4 s = some r → Fr W_X1_howManyOf (s.2.2) r.2) (S : St) {r0 : Int32 × St} (h : f_X1_howManyOf_b27 rec4 v1 v2 v3 S = some r0) : Fr W_X1_howManyOf S r0.2 := by
  have F : Fr W_X1_howManyOf S S := Fr.rf
  unfold f_X1_howManyOf_b27 at h
  exact F.trans (hrec4 (v2, v3 + 1, S) _ h)
theorem fr_X1_howManyOf_b4 {rec4 : Int32 × Int32 × St → Option (Int32 × St)} (v1 : Int32) (v2 : Int32) (v3 : Int32) (hrec4 : ∀ (s : Int32 × Int32 × St) (r : Int32 × St), rec4 s = some r → Fr W_X1_howManyOf (s.2.2) r.2) (S : St) {r0 : Int32 × St} (h : f_X1_howManyOf_b4 rec4 v1 v2 v3 S = some r0) : Fr W_X1_howManyOf S r0.2 := by
  have F : Fr W_X1_howManyOf S S := Fr.rf
  unfold f_X1_howManyOf_b4 at h
  rcases ite_or h with h | h
  · exact fr_end h F
  · replace h := (chk_some h).2
    rcases ite_or h with h | h
    · exact F.trans (fr_X1_howManyOf_b27 v1 (v2 + 1) v3 hrec4 S h)
    · exact F.trans (fr_X1_howManyOf_b27 v1 v2 v3 hrec4 S h)
theorem fr_X1_howManyOf_l4 (v1 : Int32) : ∀ (n : Nat) (s : Int32 × Int32 × St) (r : Int32 × St), f_X1_howManyOf_l4 v1 n s = some r → Fr W_X1_howManyOf (s.2.2) r.2 :=
  loop_sound (fun rec4 hrec4 s r h => fr_X1_howManyOf_b4 v1 s.1 s.2.1 hrec4 s.2.2 h)
theorem fr_X1_howManyOf_b0 (a1 : Int32) (S : St) {r0 : Int32 × St} (h : f_X1_howManyOf_b0 a1 S = some r0) : Fr W_X1_howManyOf S r0.2 := by
  have F : Fr W_X1_howManyOf S S := Fr.rf
  unfold f_X1_howManyOf_b0 at h
  exact F.trans (fr_X1_howManyOf_l4 a1 _ (0, 0, S) _ h)
theorem fr_X1_howManyOf (a1 : Int32) (S : St) {r0 : Int32 × St} (h : f_X1_howManyOf a1 S = some r0) : Fr W_X1_howManyOf S r0.2 := by
  have F : Fr W_X1_howManyOf S S := Fr.rf
  unfold f_X1_howManyOf at h
  exact F.trans (fr_X1_howManyOf_b0 a1 S h)
def W_X1_firstBeginOf : List Nat × List Nat × List Nat × Bool := ([], [], [], false)
theorem fr_X1_firstBeginOf_b2 {rec2 : Int32 × St → Option (Int32 × St)} (v1 : Int32) (v2 : Int32) (hrec2 : ∀ (s : Int32 × St) (r : Int32 × St), rec2 s = some r → Fr W_X1_firstBeginOf (s.2) r.2) (S : St) {r0 : Int32 × St} (h : f_X1_firstBeginOf_b2 rec2 v1 v2 S = some r0) : Fr W_X1_firstBeginOf S r0.2 := by
  have F : Fr W_X1_firstBeginOf S S := Fr.rf
  unfold f_X1_firstBeginOf_b2 at h
  rcases ite_or h with h | h
  · exact fr_end h F
  · replace h := (chk_some h).2
    rcases ite_or h with h | h
    · replace h := (chk_some h).2
      exact fr_end h F
    · exact F.trans (hrec2 (v2 + 1, S) _ h)
theorem fr_X1_firstBeginOf_l2 (v1 : Int32) : ∀ (n : Nat) (s : Int32 × St) (r : Int32 × St), f_X1_firstBeginOf_l2 v1 n s = some r → Fr W_X1_firstBeginOf (s.2) r.2 :=
  loop_sound (fun rec2 hrec2 s r h => fr_X1_firstBeginOf_b2 v1 s.1 hrec2 s.2 h)
theorem fr_X1_firstBeginOf_b0 (a1 : Int32) (S : St) {r0 : Int32 × St} (h : f_X1_firstBeginOf_b0 a1 S = some r0) : Fr W_X1_firstBeginOf S r0.2 := by
  have F : Fr W_X1_firstBeginOf S S := Fr.rf
  unfold f_X1_firstBeginOf_b0 at h
  exact F.trans (fr_X1_firstBeginOf_l2 a1 _ (0, S) _ h)
theorem fr_X1_firstBeginOf (a1 : Int32) (S : St) {r0 : Int32 × St} (h : f_X1_firstBeginOf a1 S = some r0) : Fr W_X1_firstBeginOf S r0.2 := by
  have F : Fr W_X1_firstBeginOf S S := Fr.rf
  unfold f_X1_firstBeginOf at h
  exact F.trans (fr_X1_firstBeginOf_b0 a1 S h)
def W_X1_lastEndOf : List Nat × List Nat × List Nat × Bool := ([], [], [], false)
theorem fr_X1_lastEndOf_b52 {rec7 : Int32 × Int32 × Int32 × St → Option (Int32 × St)} (v1 : Int32) (v2 : Int32) (v3 : Int32) (v4 : Int32) (hrec7 : ∀ (s : Int32 × Int32 × Int32 × St) (r : Int32 × St), rec7 s = some r → Fr W_X1_lastEndOf (s.2.2.2) r.2) (S : St) {r0 : Int32 × St} (h : f_X1_lastEndOf_b52 rec7 v1 v2 v3 v4 S = some r0) : Fr W_X1_lastEndOf S r0.2 := by
  have F : Fr W_X1_lastEndOf S S := Fr.rf
  unfold f_X1_lastEndOf_b52 at h
  exact F.trans (hrec7 (v2, v3, v4 + 1, S) _ h)
theorem fr_X1_lastEndOf_b43 {rec7 : Int32 × Int32 × Int32 × St → Option (Int32 × St)} (v1 : Int32) (v4 : Int32) (hrec7 : ∀ (s : Int32 × Int32 × Int32 × St) (r : Int32 × St), rec7 s = some r → Fr W_X1_lastEndOf (s.2.2.2) r.2) (S : St) {r0 : Int32 × St} (h : f_X1_lastEndOf_b43 rec7 v1 v4 S = some r0) : Fr W_X1_lastEndOf S r0.2 := by
  have F : Fr W_X1_lastEndOf S S := Fr.rf
  unfold f_X1_lastEndOf_b43 at h
  obtain ⟨⟨r2, S1⟩, e_, h⟩ := bnd_some h
  replace F := F.trans ((fr_X1_endOf v4 _ e_).mono (w1 := W_X1_lastEndOf) rfl rfl rfl rfl)
  exact F.trans (fr_X1_lastEndOf_b52 v1 1 r2 v4 hrec7 S1 h)
theorem fr_X1_lastEndOf_b7 {rec7 : Int32 × Int32 × Int32 × St → Option (Int32 × St)} (v1 : Int32) (v2 : Int32) (v3 : Int32) (v4 : Int32) (hrec7 : ∀ (s : Int32 × Int32 × Int32 × St) (r : Int32 × St), rec7 s = some r → Fr W_X1_lastEndOf (s.2.2.2) r.2) (S : St) {r0 : Int32 × St} (h : f_X1_lastEndOf_b7 rec7 v1 v2 v3 v4 S = some r0) : Fr W_X1_lastEndOf S r0.2 := by
  have F : Fr W_X1_lastEndOf S S := Fr.rf
  unfold f_X1_lastEndOf_b7 at h
  rcases ite_or h with h | h
  · exact fr_end h F
  · replace h := (chk_some h).2
    rcases ite_or h with h | h
    · rcases ite_or h with h | h
      · exact F.trans (fr_X1_lastEndOf_b43 v1 v4 hrec7 S h)
      · obtain ⟨⟨r4, S3⟩, e_, h⟩ := bnd_some h
        replace F := F.trans ((fr_X1_endOf v4 _ e_).mono (w1 := W_X1_lastEndOf) rfl rfl rfl rfl)
        rcases ite_or h with h | h
        · exact F.trans (fr_X1_lastEndOf_b52 v1 v2 v3 v4 hrec7 S3 h)
        · exact F.trans (fr_X1_lastEndOf_b43 v1 v4 hrec7 S3 h)
    · exact F.trans (fr_X1_lastEndOf_b52 v1 v2 v3 v4 hrec7 S h)
theorem fr_X1_lastEndOf_l7 (v1 : Int32) : ∀ (n : Nat) (s : Int32 × Int32 × Int32 × St) (r : Int32 × St), f_X1_lastEndOf_l7 v1 n s = some r → Fr W_X1_lastEndOf (s.2.2.2) r.2 :=
  loop_sound (fun rec7 hrec7 s r h => fr_X1_lastEndOf_b7 v1 s.1 s.2.1 s.2.2.1 hrec7 s.2.2.2 h)
theorem fr_X1_lastEndOf_b0 (a1 : Int32) (S : St) {r0 : Int32 × St} (h : f_X1_lastEndOf_b0 a1 S = some r0) : Fr W_X1_lastEndOf S r0.2 := by
  have F : Fr W_X1_lastEndOf S S := Fr.rf
  unfold f_X1_lastEndOf_b0 at h
  exact F.trans (fr_X1_lastEndOf_l7 a1 _ (0, (-1), 0, S) _ h)
theorem fr_X1_lastEndOf (a1 : Int32) (S : St) {r0 : Int32 × St} (h : f_X1_lastEndOf a1 S = some r0) : Fr W_X1_lastEndOf S r0.2 := by
  have F : Fr W_X1_lastEndOf S S := Fr.rf
  unfold f_X1_lastEndOf at h
  exact F.trans (fr_X1_lastEndOf_b0 a1 S h)
def W_X11_span : List Nat × List Nat × List Nat × Bool := ([], [], [], false)
theorem fr_X11_span_b0 (a1 : Int32) (a2 : Int32) (S : St) {r0 : Int32 × St} (h : f_X11_span_b0 a1 a2 S = some r0) : Fr W_X11_span S r0.2 := by
  have F : Fr W_X11_span S S := Fr.rf
  unfold f_X11_span_b0 at h
  obtain ⟨⟨r2, S1⟩, e_, h⟩ := bnd_some h
  replace F := F.trans ((fr_X4_has a1 _ e_).mono (w1 := W_X11_span) rfl rfl rfl rfl)
  rcases ite_or h with h | h
  · exact fr_end h F
  · rcases ite_or h with h | h
    · obtain ⟨⟨r5, S4⟩, e_, h⟩ := bnd_some h
      replace F := F.trans ((fr_X1_howManyOf a1 _ e_).mono (w1 := W_X11_span) rfl rfl rfl rfl)
      exact fr_end h F
    rcases ite_or h with h | h
    · obtain ⟨⟨r8, S7⟩, e_, h⟩ := bnd_some h
      replace F := F.trans ((fr_X1_firstBeginOf a1 _ e_).mono (w1 := W_X11_span) rfl rfl rfl rfl)
      exact fr_end h F
    rcases ite_or h with h | h
    · obtain ⟨⟨r11, S10⟩, e_, h⟩ := bnd_some h
      replace F := F.trans ((fr_X1_lastEndOf a1 _ e_).mono (w1 := W_X11_span) rfl rfl rfl rfl)
      exact fr_end h F
    exact fr_end h F
theorem fr_X11_span (a1 : Int32) (a2 : Int32) (S : St) {r0 : Int32 × St} (h : f_X11_span a1 a2 S = some r0) : Fr W_X11_span S r0.2 := by
  have F : Fr W_X11_span S S := Fr.rf
  unfold f_X11_span at h
  exact F.trans (fr_X11_span_b0 a1 a2 S h)
def W_X12_span : List Nat × List Nat × List Nat × Bool := ([], [], [], false)
theorem fr_X12_span_b20 (S : St) {r0 : Int32 × St} (h : f_X12_span_b20 S = some r0) : Fr W_X12_span S r0.2 := by
  have F : Fr W_X12_span S S := Fr.rf
  unfold f_X12_span_b20 at h
  exact fr_end h F
theorem fr_X12_span_b170 (w0 : Int32) (S : St) {r0 : Int32 × St} (h : f_X12_span_b170 w0 S = some r0) : Fr W_X12_span S r0.2 := by
  have F : Fr W_X12_span S S := Fr.rf
  unfold f_X12_span_b170 at h
  exact fr_end h F
theorem fr_X12_span_b144 {rec35 : Int32 × Int32 × Int32 × Int32 × St → Option (Int32 × St)} (v1 : Int32) (v2 : Int32) (v3 : Int32) (v4 : Int32) (v5 : Int32) (v6 : Int32) (hrec35 : ∀ (s : Int32 × Int32 × Int32 × Int32 × St) (r : Int32 × St), rec35 s = some r → Fr W_X12_span (s.2.2.2.2) r.2) (S : St) {r0 : Int32 × St} (h : f_X12_span_b144 rec35 v1 v2 v3 v4 v5 v6 S = some r0) : Fr W_X12_span S r0.2 := by
  have F : Fr W_X12_span S S := Fr.rf
  unfold f_X12_span_b144 at h
  exact F.trans (hrec35 (v3, v4, v5, v6 + 1, S) _ h)
theorem fr_X12_span_b139 {rec35 : Int32 × Int32 × Int32 × Int32 × St → Option (Int32 × St)} (v1 : Int32) (v2 : Int32) (v3 : Int32) (v4 : Int32) (v6 : Int32) (w0 : Int32) (hrec35 : ∀ (s : Int32 × Int32 × Int32 × Int32 × St) (r : Int32 × St), rec35 s = some r → Fr W_X12_span (s.2.2.2.2) r.2) (S : St) {r0 : Int32 × St} (h : f_X12_span_b139 rec35 v1 v2 v3 v4 v6 w0 S = some r0) : Fr W_X12_span S r0.2 := by
  have F : Fr W_X12_span S S := Fr.rf
  unfold f_X12_span_b139 at h
  exact F.trans (fr_X12_span_b144 v1 v2 (v3 + 1) v4 w0 v6 hrec35 S h)
theorem fr_X12_span_b132 {rec35 : Int32 × Int32 × Int32 × Int32 × St → Option (Int32 × St)} (v1 : Int32) (v2 : Int32) (v3 : Int32) (v4 : Int32) (v6 : Int32) (v7 : Int32) (hrec35 : ∀ (s : Int32 × Int32 × Int32 × Int32 × St) (r : Int32 × St), rec35 s = some r → Fr W_X12_span (s.2.2.2.2) r.2) (S : St) {r0 : Int32 × St} (h : f_X12_span_b132 rec35 v1 v2 v3 v4 v6 v7 S = some r0) : Fr W_X12_span S r0.2 := by
  have F : Fr W_X12_span S S := Fr.rf
  unfold f_X12_span_b132 at h
  exact F.trans (fr_X12_span_b139 v1 v2 v3 v4 v6 v7 hrec35 S h)
theorem fr_X12_span_b119 {rec35 : Int32 × Int32 × Int32 × Int32 × St → Option (Int32 × St)} (v1 : Int32) (v2 : Int32) (v3 : Int32) (v5 : Int32) (v6 : Int32) (v7 : Int32) (w0 : Int32) (hrec35 : ∀ (s : Int32 × Int32 × Int32 × Int32 × St) (r : Int32 × St), rec35 s = some r → Fr W_X12_span (s.2.2.2.2) r.2) (S : St) {r0 : Int32 × St} (h : f_X12_span_b119 rec35 v1 v2 v3 v5 v6 v7 w0 S = some r0) : Fr W_X12_span S r0.2 := by
  have F : Fr W_X12_span S S := Fr.rf
  unfold f_X12_span_b119 at h
  rcases ite_or h with h | h
  · exact F.trans (fr_X12_span_b132 v1 v2 v3 w0 v6 v7 hrec35 S h)
  · rcases ite_or h with h | h
    · exact F.trans (fr_X12_span_b139 v1 v2 v3 w0 v6 v5 hrec35 S h)
    · exact F.trans (fr_X12_span_b132 v1 v2 v3 w0 v6 v7 hrec35 S h)
theorem fr_X12_span_b104 {rec35 : Int32 × Int32 × Int32 × Int32 × St → Option (Int32 × St)} (v1 : Int32) (v2 : Int32) (v3 : Int32) (v5 : Int32) (v6 : Int32) (v7 : Int32) (hrec35 : ∀ (s : Int32 × Int32 × Int32 × Int32 × St) (r : Int32 × St), rec35 s = some r → Fr W_X12_span (s.2.2.2.2) r.2) (S : St) {r0 : Int32 × St} (h : f_X12_span_b104 rec35 v1 v2 v3 v5 v6 v7 S = some r0) : Fr W_X12_span S r0.2 := by
  have F : Fr W_X12_span S S := Fr.rf
  unfold f_X12_span_b104 at h
  replace h := (chk_some h).2
  exact F.trans (fr_X12_span_b119 v1 v2 v3 v5 v6 v7 (rd S 66 (6 * v6)) hrec35 S h)
theorem fr_X12_span_b35 {rec35 : Int32 × Int32 × Int32 × Int32 × St → Option (Int32 × St)} (v1 : Int32) (v2 : Int32) (v3 : Int32) (v4 : Int32) (v5 : Int32) (v6 : Int32) (hrec35 : ∀ (s : Int32 × Int32 × Int32 × Int32 × St) (r : Int32 × St), rec35 s = some r → Fr W_X12_span (s.2.2.2.2) r.2) (S : St) {r0 : Int32 × St} (h : f_X12_span_b35 rec35 v1 v2 v3 v4 v5 v6 S = some r0) : Fr W_X12_span S r0.2 := by
  have F : Fr W_X12_span S S := Fr.rf
  unfold f_X12_span_b35 at h
  rcases ite_or h with h | h
  · rcases ite_or h with h | h
    · exact F.trans (fr_X12_span_b170 v3 S h)
    · rcases ite_or h with h | h
      · exact F.trans (fr_X12_span_b170 v4 S h)
      · exact F.trans (fr_X12_span_b170 v5 S h)
  · replace h := (chk_some h).2
    rcases ite_or h with h | h
    · replace h := (chk_some h).2
      replace h := (chk_some h).2
      obtain ⟨x5, _, h⟩ := vlet_ex h
      rcases ite_or h with h | h
      · exact F.trans (fr_X12_span_b104 v1 v2 v3 v5 v6 x5 hrec35 S h)
      · replace h := (chk_some h).2
        rcases ite_or h with h | h
        · exact F.trans (fr_X12_span_b119 v1 v2 v3 v5 v6 x5 v4 hrec35 S h)
        · exact F.trans (fr_X12_span_b104 v1 v2 v3 v5 v6 x5 hrec35 S h)
    · exact F.trans (fr_X12_span_b144 v1 v2 v3 v4 v5 v6 hrec35 S h)
theorem fr_X12_span_l35 (v1 : Int32) (v2 : Int32) : ∀ (n : Nat) (s : Int32 × Int32 × Int32 × Int32 × St) (r : Int32 × St), f_X12_span_l35 v1 v2 n s = some r → Fr W_X12_span (s.2.2.2.2) r.2 :=
  loop_sound (fun rec35 hrec35 s r h => fr_X12_span_b35 v1 v2 s.1 s.2.1 s.2.2.1 s.2.2.2.1 hrec35 s.2.2.2.2 h)
theorem fr_X12_span_b0 (a1 : Int32) (a2 : Int32) (S : St) {r0 : Int32 × St} (h : f_X12_span_b0 a1 a2 S = some r0) : Fr W_X12_span S r0.2 := by
  have F : Fr W_X12_span S S := Fr.rf
  unfold f_X12_span_b0 at h
  obtain ⟨⟨r2, S1⟩, e_, h⟩ := bnd_some h
  replace F := F.trans ((fr_X12_isNote a1 _ e_).mono (w1 := W_X12_span) rfl rfl rfl rfl)
  rcases ite_or h with h | h
  · exact F.trans (fr_X12_span_b20  S1 h)
  · obtain ⟨⟨r4, S3⟩, e_, h⟩ := bnd_some h
    replace F := F.trans ((fr_X12_in (Int32.toInt64 a2) 0 2 _ e_).mono (w1 := W_X12_span) rfl rfl rfl rfl)
    rcases ite_or h with h | h
    · exact F.trans (fr_X12_span_b20  S3 h)
    · exact F.trans (fr_X12_span_l35 a1 a2 _ (0, (-1), (-1), 0, S3) _ h)
theorem fr_X12_span (a1 : Int32) (a2 : Int32) (S : St) {r0 : Int32 × St} (h : f_X12_span a1 a2 S = some r0) : Fr W_X12_span S r0.2 := by
  have F : Fr W_X12_span S S := Fr.rf
  unfold f_X12_span at h
  exact F.trans (fr_X12_span_b0 a1 a2 S h)
def W_X11_count : List Nat × List Nat × List Nat × Bool := ([], [], [], false)
theorem fr_X11_count_b0 (a1 : Int32) (S : St) {r0 : Int32 × St} (h : f_X11_count_b0 a1 S = some r0) : Fr W_X11_count S r0.2 := by
  have F : Fr W_X11_count S S := Fr.rf
  unfold f_X11_count_b0 at h
  rcases ite_or h with h | h
  · exact fr_end h F
  rcases ite_or h with h | h
  · exact fr_end h F
  rcases ite_or h with h | h
  · exact fr_end h F
  rcases ite_or h with h | h
  · exact fr_end h F
  rcases ite_or h with h | h
  · exact fr_end h F
  rcases ite_or h with h | h
  · exact fr_end h F
  exact fr_end h F
theorem fr_X11_count (a1 : Int32) (S : St) {r0 : Int32 × St} (h : f_X11_count a1 S = some r0) : Fr W_X11_count S r0.2 := by
  have F : Fr W_X11_count S S := Fr.rf
  unfold f_X11_count at h
  exact F.trans (fr_X11_count_b0 a1 S h)
def W_X12_count : List Nat × List Nat × List Nat × Bool := ([], [], [], false)
theorem fr_X12_count_b74 (w0 : Int32) (S : St) {r0 : Int32 × St} (h : f_X12_count_b74 w0 S = some r0) : Fr W_X12_count S r0.2 := by
  have F : Fr W_X12_count S S := Fr.rf
  unfold f_X12_count_b74 at h
  exact fr_end h F
theorem fr_X12_count_b0 (a1 : Int32) (S : St) {r0 : Int32 × St} (h : f_X12_count_b0 a1 S = some r0) : Fr W_X12_count S r0.2 := by
  have F : Fr W_X12_count S S := Fr.rf
  unfold f_X12_count_b0 at h
  rcases ite_or h with h | h
  · exact F.trans (fr_X12_count_b74 (gI S 23) S h)
  · rcases ite_or h with h | h
    · exact F.trans (fr_X12_count_b74 (gI S 24) S h)
    · rcases ite_or h with h | h
      · exact F.trans (fr_X12_count_b74 (gI S 27) S h)
      · rcases ite_or h with h | h
        · exact F.trans (fr_X12_count_b74 (gI S 28) S h)
        · rcases ite_or h with h | h
          · exact F.trans (fr_X12_count_b74 (gI S 34) S h)
          · rcases ite_or h with h | h
            · exact F.trans (fr_X12_count_b74 (gI S 29) S h)
            · exact F.trans (fr_X12_count_b74 (-1001) S h)
theorem fr_X12_count (a1 : Int32) (S : St) {r0 : Int32 × St} (h : f_X12_count a1 S = some r0) : Fr W_X12_count S r0.2 := by
  have F : Fr W_X12_count S S := Fr.rf
  unfold f_X12_count at h
  exact F.trans (fr_X12_count_b0 a1 S h)
