/-! ===== constructors: worlds that grow ===== -/
theorem app_at {α : Type} (F l : List α) (k : Nat) : (F ++ l)[F.length + k]? = l[k]? := by
  rw [List.getElem?_append_right (Nat.le_add_right _ _), Nat.add_sub_cancel_left]
theorem app_set {α : Type} (F l : List α) (k : Nat) (x : α) : (F ++ l).set (F.length + k) x = F ++ l.set k x := by
  rw [List.set_append_right _ _ (Nat.le_add_right _ _), Nat.add_sub_cancel_left]
def Cw (b : Bw) (ws : va_W) (sz : Nat) (U : State) : Prop := U.heap.size = sz ∧ va_P (bD b) vwCl ws U.heap ∧ va_K (bD b) vwCl (btys b) U ∧ va_D (fun _ => True) ws ∧ (∀ w ∈ nestWs, va_Nw w U) ∧ (Cond.arrayOver (.array .int)).before #[] U = true
def QC (b : Bw) (v : Option Value) (h0 : Nat) (W1 : (Nat → Nat) → va_W) (A : Nat → Prop) : Array Value → State → Outcome → State → Prop := fun _ st oc t => oc = .returned v ∧ (∃ q : Nat → Nat, q 0 = h0 ∧ va_P (bD b) vwCl (W1 q) t.heap ∧ va_D A (W1 q)) ∧ va_F A st t
/-- a constructor's contract: its own cell stands last; its world comes in its place -/
def Ck (l : Launch) (b : Bw) (y : MethodName) (ws : List Cond) (rm : Room) (vs : List Value) (v : Option Value) (W0 : va_W) (h0 : Nat) (W1 : (Nat → Nat) → va_W) (mc ms : Nat) : Prop := ∀ sz : Nat, Met l y ws rm (va_Pc vs (Cw b W0 sz)) (QC b v h0 W1 (va_A W0 sz)) mc ms (va_A W0 sz)
def GC (X : MC) (A : Nat → Prop) (Q : State → Prop) (ws : va_W) (kc ks : Nat) (pc : Nat) (lv : List (Nat × Value)) (st : List Value) : Prop := match X with
  | (p, l, e, R, s, m, args, below, meth, c, b, _, _) => ∀ (H : Heap) (locs : List Loc) (ls : Array Slot), va_P (bD b) vwCl ws H → va_D A ws → va_S A s.heap H locs → lv_has ls c.maxLocals lv → W p l e R s m args below meth c H locs kc ks Q (F0 m pc ls st)
def Cc (X : MC) (A : Nat → Prop) (cc : ByteArray) (own : String) (Ts : List Cond) (nL : Nat) (rm : Room) (ret : Option FieldType) (nm : String) : Prop := match X with
  | (p, l, e, R, s, m, args, below, meth, c, b, _, _) => p.tables.exec = Jvm.exec ∧ c.code = cc ∧ c.maxLocals = nL ∧ s.vm.findClass own = some m.cls ∧ (∀ w ∈ Ts, w.before args s = true) ∧ meth.sig.returnType = ret ∧ meth.locks = false ∧ R = rm ∧ va_K (bD b) vwCl (btys b) s ∧ (∀ q, s.heap.size ≤ q → A q) ∧ (∀ w ∈ nestWs, va_Nw w s) ∧ (Cond.arrayOver (.array .int)).before #[] s = true ∧ meth.name = nm
section CROWS
variable {X : MC} {A : Nat → Prop} {Q : State → Prop} {ws : va_W} {kc ks : Nat} {pc : Nat} {lv : List (Nat × Value)} {st : List Value} {cc : ByteArray} {own : String} {Ts : List Cond} {nL : Nat} {rm : Room} {ret : Option FieldType} {nm : String} {α : Type} {r0 : α}
theorem gc_iload_n (C : Cc X A cc own Ts nL rm ret nm) {k : Fin 4} {i : Nat} {x : Int32} (hd : decode cc pc = .ok (.iload_n k, 1)) (hi : (k : Nat) = i) (n : Nat) (hn : lv[n]? = some (i, .int x)) (kk : GC X A Q ws kc ks (pc + 1) lv (.int x :: st)) : GC X A Q ws kc ks pc lv st := by
  obtain ⟨p, l, e, R, s, m, args, below, meth, c, b, kc0, ks0⟩ := X
  obtain ⟨hx, hb, hml, hown, hts, hr, hlk, rfl, hK, hA, hnest, hover, hin⟩ := C
  intro H locs ls hP hD hS hl
  exact lv_iload_n hx hb hd hi (lv_at hl n hn) (kk H locs ls hP hD hS hl)
theorem gc_iload (C : Cc X A cc own Ts nL rm ret nm) {i : Nat} {x : Int32} (hd : decode cc pc = .ok (.iload i, 2)) (n : Nat) (hn : lv[n]? = some (i, .int x)) (kk : GC X A Q ws kc ks (pc + 2) lv (.int x :: st)) : GC X A Q ws kc ks pc lv st := by
  obtain ⟨p, l, e, R, s, m, args, below, meth, c, b, kc0, ks0⟩ := X
  obtain ⟨hx, hb, hml, hown, hts, hr, hlk, rfl, hK, hA, hnest, hover, hin⟩ := C
  intro H locs ls hP hD hS hl
  exact lv_iload hx hb hd (lv_at hl n hn) (kk H locs ls hP hD hS hl)
theorem gc_lload_n (C : Cc X A cc own Ts nL rm ret nm) {k : Fin 4} {i : Nat} {x : Int64} (hd : decode cc pc = .ok (.lload_n k, 1)) (hi : (k : Nat) = i) (n : Nat) (hn : lv[n]? = some (i, .long x)) (kk : GC X A Q ws kc ks (pc + 1) lv (.long x :: st)) : GC X A Q ws kc ks pc lv st := by
  obtain ⟨p, l, e, R, s, m, args, below, meth, c, b, kc0, ks0⟩ := X
  obtain ⟨hx, hb, hml, hown, hts, hr, hlk, rfl, hK, hA, hnest, hover, hin⟩ := C
  intro H locs ls hP hD hS hl
  exact lv_lload_n hx hb hd hi (lv_at hl n hn) (kk H locs ls hP hD hS hl)
theorem gc_lload (C : Cc X A cc own Ts nL rm ret nm) {i : Nat} {x : Int64} (hd : decode cc pc = .ok (.lload i, 2)) (n : Nat) (hn : lv[n]? = some (i, .long x)) (kk : GC X A Q ws kc ks (pc + 2) lv (.long x :: st)) : GC X A Q ws kc ks pc lv st := by
  obtain ⟨p, l, e, R, s, m, args, below, meth, c, b, kc0, ks0⟩ := X
  obtain ⟨hx, hb, hml, hown, hts, hr, hlk, rfl, hK, hA, hnest, hover, hin⟩ := C
  intro H locs ls hP hD hS hl
  exact lv_lload hx hb hd (lv_at hl n hn) (kk H locs ls hP hD hS hl)
theorem gc_aload_n (C : Cc X A cc own Ts nL rm ret nm) {k : Fin 4} {i : Nat} {x : Nat} (hd : decode cc pc = .ok (.aload_n k, 1)) (hi : (k : Nat) = i) (n : Nat) (hn : lv[n]? = some (i, .ref x)) (kk : GC X A Q ws kc ks (pc + 1) lv (.ref x :: st)) : GC X A Q ws kc ks pc lv st := by
  obtain ⟨p, l, e, R, s, m, args, below, meth, c, b, kc0, ks0⟩ := X
  obtain ⟨hx, hb, hml, hown, hts, hr, hlk, rfl, hK, hA, hnest, hover, hin⟩ := C
  intro H locs ls hP hD hS hl
  exact lv_aload_n hx hb hd hi (lv_at hl n hn) (kk H locs ls hP hD hS hl)
theorem gc_aload (C : Cc X A cc own Ts nL rm ret nm) {i : Nat} {x : Nat} (hd : decode cc pc = .ok (.aload i, 2)) (n : Nat) (hn : lv[n]? = some (i, .ref x)) (kk : GC X A Q ws kc ks (pc + 2) lv (.ref x :: st)) : GC X A Q ws kc ks pc lv st := by
  obtain ⟨p, l, e, R, s, m, args, below, meth, c, b, kc0, ks0⟩ := X
  obtain ⟨hx, hb, hml, hown, hts, hr, hlk, rfl, hK, hA, hnest, hover, hin⟩ := C
  intro H locs ls hP hD hS hl
  exact lv_aload hx hb hd (lv_at hl n hn) (kk H locs ls hP hD hS hl)
theorem gc_iconst (C : Cc X A cc own Ts nL rm ret nm) {n : Int} {v : Int32} (hd : decode cc pc = .ok (.iconst n, 1)) (hv : Int32.ofInt n = v) (kk : GC X A Q ws kc ks (pc + 1) lv (.int v :: st)) : GC X A Q ws kc ks pc lv st := by
  obtain ⟨p, l, e, R, s, m, args, below, meth, c, b, kc0, ks0⟩ := X
  obtain ⟨hx, hb, hml, hown, hts, hr, hlk, rfl, hK, hA, hnest, hover, hin⟩ := C
  intro H locs ls hP hD hS hl
  exact lv_iconst hx hb hd hv (kk H locs ls hP hD hS hl)
theorem gc_bipush (C : Cc X A cc own Ts nL rm ret nm) {n : Int} {v : Int32} (hd : decode cc pc = .ok (.bipush n, 2)) (hv : (Int8.ofInt n).toInt32 = v) (kk : GC X A Q ws kc ks (pc + 2) lv (.int v :: st)) : GC X A Q ws kc ks pc lv st := by
  obtain ⟨p, l, e, R, s, m, args, below, meth, c, b, kc0, ks0⟩ := X
  obtain ⟨hx, hb, hml, hown, hts, hr, hlk, rfl, hK, hA, hnest, hover, hin⟩ := C
  intro H locs ls hP hD hS hl
  exact lv_bipush hx hb hd hv (kk H locs ls hP hD hS hl)
theorem gc_sipush (C : Cc X A cc own Ts nL rm ret nm) {n : Int} {v : Int32} (hd : decode cc pc = .ok (.sipush n, 3)) (hv : (Int16.ofInt n).toInt32 = v) (kk : GC X A Q ws kc ks (pc + 3) lv (.int v :: st)) : GC X A Q ws kc ks pc lv st := by
  obtain ⟨p, l, e, R, s, m, args, below, meth, c, b, kc0, ks0⟩ := X
  obtain ⟨hx, hb, hml, hown, hts, hr, hlk, rfl, hK, hA, hnest, hover, hin⟩ := C
  intro H locs ls hP hD hS hl
  exact lv_sipush hx hb hd hv (kk H locs ls hP hD hS hl)
theorem gc_lconst (C : Cc X A cc own Ts nL rm ret nm) {n : Fin 2} {v : Int64} (hd : decode cc pc = .ok (.lconst n, 1)) (hv : Int64.ofNat (n : Nat) = v) (kk : GC X A Q ws kc ks (pc + 1) lv (.long v :: st)) : GC X A Q ws kc ks pc lv st := by
  obtain ⟨p, l, e, R, s, m, args, below, meth, c, b, kc0, ks0⟩ := X
  obtain ⟨hx, hb, hml, hown, hts, hr, hlk, rfl, hK, hA, hnest, hover, hin⟩ := C
  intro H locs ls hP hD hS hl
  exact lv_lconst hx hb hd hv (kk H locs ls hP hD hS hl)
theorem gc_ldc (C : Cc X A cc own Ts nL rm ret nm) {index : Nat} {v : Int32} (hw : Cond.constant own index v ∈ Ts) (hd : decode cc pc = .ok (.ldc index, 2)) (kk : GC X A Q ws kc ks (pc + 2) lv (.int v :: st)) : GC X A Q ws kc ks pc lv st := by
  obtain ⟨p, l, e, R, s, m, args, below, meth, c, b, kc0, ks0⟩ := X
  obtain ⟨hx, hb, hml, hown, hts, hr, hlk, rfl, hK, hA, hnest, hover, hin⟩ := C
  intro H locs ls hP hD hS hl
  exact lv_ldc hx hb hown (hts _ hw) hd (kk H locs ls hP hD hS hl)
theorem gc_ldc2 (C : Cc X A cc own Ts nL rm ret nm) {index : Nat} {v : Int64} (hw : Cond.constantLong own index v ∈ Ts) (hd : decode cc pc = .ok (.ldc2_w index, 3)) (kk : GC X A Q ws kc ks (pc + 3) lv (.long v :: st)) : GC X A Q ws kc ks pc lv st := by
  obtain ⟨p, l, e, R, s, m, args, below, meth, c, b, kc0, ks0⟩ := X
  obtain ⟨hx, hb, hml, hown, hts, hr, hlk, rfl, hK, hA, hnest, hover, hin⟩ := C
  intro H locs ls hP hD hS hl
  exact lv_ldc2 hx hb hown (hts _ hw) hd (kk H locs ls hP hD hS hl)
theorem gc_istore_n (C : Cc X A cc own Ts nL rm ret nm) {k : Fin 4} {i : Nat} {x : Int32} (lv1 : List (Nat × Value)) (hd : decode cc pc = .ok (.istore_n k, 1)) (hi : (k : Nat) = i) (hn : i < nL) (hq : (i, Value.int x) :: lv.filter (fun q => !(q.1 == i) && !(q.1 + 1 == i && q.2.category == 2)) = lv1) (kk : GC X A Q ws kc ks (pc + 1) lv1 st) : GC X A Q ws kc ks pc lv (.int x :: st) := by
  obtain ⟨p, l, e, R, s, m, args, below, meth, c, b, kc0, ks0⟩ := X
  obtain ⟨hx, hb, hml, hown, hts, hr, hlk, rfl, hK, hA, hnest, hover, hin⟩ := C
  intro H locs ls hP hD hS hl
  exact lv_istore_n hx hb hd hi hl (by rw [hml]; exact hn) hq (fun ls1 hl1 => kk H locs ls1 hP hD hS hl1)
theorem gc_istore (C : Cc X A cc own Ts nL rm ret nm) {i : Nat} {x : Int32} (lv1 : List (Nat × Value)) (hd : decode cc pc = .ok (.istore i, 2)) (hn : i < nL) (hq : (i, Value.int x) :: lv.filter (fun q => !(q.1 == i) && !(q.1 + 1 == i && q.2.category == 2)) = lv1) (kk : GC X A Q ws kc ks (pc + 2) lv1 st) : GC X A Q ws kc ks pc lv (.int x :: st) := by
  obtain ⟨p, l, e, R, s, m, args, below, meth, c, b, kc0, ks0⟩ := X
  obtain ⟨hx, hb, hml, hown, hts, hr, hlk, rfl, hK, hA, hnest, hover, hin⟩ := C
  intro H locs ls hP hD hS hl
  exact lv_istore hx hb hd hl (by rw [hml]; exact hn) hq (fun ls1 hl1 => kk H locs ls1 hP hD hS hl1)
theorem gc_lstore_n (C : Cc X A cc own Ts nL rm ret nm) {k : Fin 4} {i : Nat} {x : Int64} (lv1 : List (Nat × Value)) (hd : decode cc pc = .ok (.lstore_n k, 1)) (hi : (k : Nat) = i) (hn : i + 1 < nL) (hq : (i, Value.long x) :: lv.filter (fun q => !(q.1 == i) && (!(q.1 == i + 1) && !(q.1 + 1 == i && q.2.category == 2))) = lv1) (kk : GC X A Q ws kc ks (pc + 1) lv1 st) : GC X A Q ws kc ks pc lv (.long x :: st) := by
  obtain ⟨p, l, e, R, s, m, args, below, meth, c, b, kc0, ks0⟩ := X
  obtain ⟨hx, hb, hml, hown, hts, hr, hlk, rfl, hK, hA, hnest, hover, hin⟩ := C
  intro H locs ls hP hD hS hl
  exact lv_lstore_n hx hb hd hi hl (by rw [hml]; exact hn) hq (fun ls1 hl1 => kk H locs ls1 hP hD hS hl1)
theorem gc_lstore (C : Cc X A cc own Ts nL rm ret nm) {i : Nat} {x : Int64} (lv1 : List (Nat × Value)) (hd : decode cc pc = .ok (.lstore i, 2)) (hn : i + 1 < nL) (hq : (i, Value.long x) :: lv.filter (fun q => !(q.1 == i) && (!(q.1 == i + 1) && !(q.1 + 1 == i && q.2.category == 2))) = lv1) (kk : GC X A Q ws kc ks (pc + 2) lv1 st) : GC X A Q ws kc ks pc lv (.long x :: st) := by
  obtain ⟨p, l, e, R, s, m, args, below, meth, c, b, kc0, ks0⟩ := X
  obtain ⟨hx, hb, hml, hown, hts, hr, hlk, rfl, hK, hA, hnest, hover, hin⟩ := C
  intro H locs ls hP hD hS hl
  exact lv_lstore hx hb hd hl (by rw [hml]; exact hn) hq (fun ls1 hl1 => kk H locs ls1 hP hD hS hl1)
theorem gc_astore_n (C : Cc X A cc own Ts nL rm ret nm) {k : Fin 4} {i : Nat} {x : Nat} (lv1 : List (Nat × Value)) (hd : decode cc pc = .ok (.astore_n k, 1)) (hi : (k : Nat) = i) (hn : i < nL) (hq : (i, Value.ref x) :: lv.filter (fun q => !(q.1 == i) && !(q.1 + 1 == i && q.2.category == 2)) = lv1) (kk : GC X A Q ws kc ks (pc + 1) lv1 st) : GC X A Q ws kc ks pc lv (.ref x :: st) := by
  obtain ⟨p, l, e, R, s, m, args, below, meth, c, b, kc0, ks0⟩ := X
  obtain ⟨hx, hb, hml, hown, hts, hr, hlk, rfl, hK, hA, hnest, hover, hin⟩ := C
  intro H locs ls hP hD hS hl
  exact lv_astore_n hx hb hd hi hl (by rw [hml]; exact hn) hq (fun ls1 hl1 => kk H locs ls1 hP hD hS hl1)
theorem gc_astore (C : Cc X A cc own Ts nL rm ret nm) {i : Nat} {x : Nat} (lv1 : List (Nat × Value)) (hd : decode cc pc = .ok (.astore i, 2)) (hn : i < nL) (hq : (i, Value.ref x) :: lv.filter (fun q => !(q.1 == i) && !(q.1 + 1 == i && q.2.category == 2)) = lv1) (kk : GC X A Q ws kc ks (pc + 2) lv1 st) : GC X A Q ws kc ks pc lv (.ref x :: st) := by
  obtain ⟨p, l, e, R, s, m, args, below, meth, c, b, kc0, ks0⟩ := X
  obtain ⟨hx, hb, hml, hown, hts, hr, hlk, rfl, hK, hA, hnest, hover, hin⟩ := C
  intro H locs ls hP hD hS hl
  exact lv_astore hx hb hd hl (by rw [hml]; exact hn) hq (fun ls1 hl1 => kk H locs ls1 hP hD hS hl1)
theorem gc_iinc (C : Cc X A cc own Ts nL rm ret nm) {i : Nat} {x v : Int32} {j : Int} (lv1 : List (Nat × Value)) (hd : decode cc pc = .ok (.iinc i j, 3)) (n : Nat) (hk : lv[n]? = some (i, .int x)) (hv : x + Int32.ofInt j = v) (hn : i < nL) (hq : (i, Value.int v) :: lv.filter (fun q => !(q.1 == i) && !(q.1 + 1 == i && q.2.category == 2)) = lv1) (kk : GC X A Q ws kc ks (pc + 3) lv1 st) : GC X A Q ws kc ks pc lv st := by
  obtain ⟨p, l, e, R, s, m, args, below, meth, c, b, kc0, ks0⟩ := X
  obtain ⟨hx, hb, hml, hown, hts, hr, hlk, rfl, hK, hA, hnest, hover, hin⟩ := C
  intro H locs ls hP hD hS hl
  exact lv_iinc hx hb hd hl hk hv (by rw [hml]; exact hn) hq (fun ls1 hl1 => kk H locs ls1 hP hD hS hl1)
theorem gc_iadd (C : Cc X A cc own Ts nL rm ret nm) {x y : Int32} (hd : decode cc pc = .ok (.iadd, 1)) (kk : GC X A Q ws kc ks (pc + 1) lv (.int (x + y) :: st)) : GC X A Q ws kc ks pc lv (.int y :: .int x :: st) := by
  obtain ⟨p, l, e, R, s, m, args, below, meth, c, b, kc0, ks0⟩ := X
  obtain ⟨hx, hb, hml, hown, hts, hr, hlk, rfl, hK, hA, hnest, hover, hin⟩ := C
  intro H locs ls hP hD hS hl
  exact lv_iadd hx hb hd (kk H locs ls hP hD hS hl)
theorem gc_isub (C : Cc X A cc own Ts nL rm ret nm) {x y : Int32} (hd : decode cc pc = .ok (.isub, 1)) (kk : GC X A Q ws kc ks (pc + 1) lv (.int (x - y) :: st)) : GC X A Q ws kc ks pc lv (.int y :: .int x :: st) := by
  obtain ⟨p, l, e, R, s, m, args, below, meth, c, b, kc0, ks0⟩ := X
  obtain ⟨hx, hb, hml, hown, hts, hr, hlk, rfl, hK, hA, hnest, hover, hin⟩ := C
  intro H locs ls hP hD hS hl
  exact lv_isub hx hb hd (kk H locs ls hP hD hS hl)
theorem gc_imul (C : Cc X A cc own Ts nL rm ret nm) {x y : Int32} (hd : decode cc pc = .ok (.imul, 1)) (kk : GC X A Q ws kc ks (pc + 1) lv (.int (x * y) :: st)) : GC X A Q ws kc ks pc lv (.int y :: .int x :: st) := by
  obtain ⟨p, l, e, R, s, m, args, below, meth, c, b, kc0, ks0⟩ := X
  obtain ⟨hx, hb, hml, hown, hts, hr, hlk, rfl, hK, hA, hnest, hover, hin⟩ := C
  intro H locs ls hP hD hS hl
  exact lv_imul hx hb hd (kk H locs ls hP hD hS hl)
theorem gc_iand (C : Cc X A cc own Ts nL rm ret nm) {x y : Int32} (hd : decode cc pc = .ok (.iand, 1)) (kk : GC X A Q ws kc ks (pc + 1) lv (.int (x &&& y) :: st)) : GC X A Q ws kc ks pc lv (.int y :: .int x :: st) := by
  obtain ⟨p, l, e, R, s, m, args, below, meth, c, b, kc0, ks0⟩ := X
  obtain ⟨hx, hb, hml, hown, hts, hr, hlk, rfl, hK, hA, hnest, hover, hin⟩ := C
  intro H locs ls hP hD hS hl
  exact lv_iand hx hb hd (kk H locs ls hP hD hS hl)
theorem gc_ladd (C : Cc X A cc own Ts nL rm ret nm) {x y : Int64} (hd : decode cc pc = .ok (.ladd, 1)) (kk : GC X A Q ws kc ks (pc + 1) lv (.long (x + y) :: st)) : GC X A Q ws kc ks pc lv (.long y :: .long x :: st) := by
  obtain ⟨p, l, e, R, s, m, args, below, meth, c, b, kc0, ks0⟩ := X
  obtain ⟨hx, hb, hml, hown, hts, hr, hlk, rfl, hK, hA, hnest, hover, hin⟩ := C
  intro H locs ls hP hD hS hl
  exact lv_ladd hx hb hd (kk H locs ls hP hD hS hl)
theorem gc_lsub (C : Cc X A cc own Ts nL rm ret nm) {x y : Int64} (hd : decode cc pc = .ok (.lsub, 1)) (kk : GC X A Q ws kc ks (pc + 1) lv (.long (x - y) :: st)) : GC X A Q ws kc ks pc lv (.long y :: .long x :: st) := by
  obtain ⟨p, l, e, R, s, m, args, below, meth, c, b, kc0, ks0⟩ := X
  obtain ⟨hx, hb, hml, hown, hts, hr, hlk, rfl, hK, hA, hnest, hover, hin⟩ := C
  intro H locs ls hP hD hS hl
  exact lv_lsub hx hb hd (kk H locs ls hP hD hS hl)
theorem gc_lmul (C : Cc X A cc own Ts nL rm ret nm) {x y : Int64} (hd : decode cc pc = .ok (.lmul, 1)) (kk : GC X A Q ws kc ks (pc + 1) lv (.long (x * y) :: st)) : GC X A Q ws kc ks pc lv (.long y :: .long x :: st) := by
  obtain ⟨p, l, e, R, s, m, args, below, meth, c, b, kc0, ks0⟩ := X
  obtain ⟨hx, hb, hml, hown, hts, hr, hlk, rfl, hK, hA, hnest, hover, hin⟩ := C
  intro H locs ls hP hD hS hl
  exact lv_lmul hx hb hd (kk H locs ls hP hD hS hl)
theorem gc_land (C : Cc X A cc own Ts nL rm ret nm) {x y : Int64} (hd : decode cc pc = .ok (.land, 1)) (kk : GC X A Q ws kc ks (pc + 1) lv (.long (x &&& y) :: st)) : GC X A Q ws kc ks pc lv (.long y :: .long x :: st) := by
  obtain ⟨p, l, e, R, s, m, args, below, meth, c, b, kc0, ks0⟩ := X
  obtain ⟨hx, hb, hml, hown, hts, hr, hlk, rfl, hK, hA, hnest, hover, hin⟩ := C
  intro H locs ls hP hD hS hl
  exact lv_land hx hb hd (kk H locs ls hP hD hS hl)
theorem gc_lor (C : Cc X A cc own Ts nL rm ret nm) {x y : Int64} (hd : decode cc pc = .ok (.lor, 1)) (kk : GC X A Q ws kc ks (pc + 1) lv (.long (x ||| y) :: st)) : GC X A Q ws kc ks pc lv (.long y :: .long x :: st) := by
  obtain ⟨p, l, e, R, s, m, args, below, meth, c, b, kc0, ks0⟩ := X
  obtain ⟨hx, hb, hml, hown, hts, hr, hlk, rfl, hK, hA, hnest, hover, hin⟩ := C
  intro H locs ls hP hD hS hl
  exact lv_lor hx hb hd (kk H locs ls hP hD hS hl)
theorem gc_lxor (C : Cc X A cc own Ts nL rm ret nm) {x y : Int64} (hd : decode cc pc = .ok (.lxor, 1)) (kk : GC X A Q ws kc ks (pc + 1) lv (.long (x ^^^ y) :: st)) : GC X A Q ws kc ks pc lv (.long y :: .long x :: st) := by
  obtain ⟨p, l, e, R, s, m, args, below, meth, c, b, kc0, ks0⟩ := X
  obtain ⟨hx, hb, hml, hown, hts, hr, hlk, rfl, hK, hA, hnest, hover, hin⟩ := C
  intro H locs ls hP hD hS hl
  exact lv_lxor hx hb hd (kk H locs ls hP hD hS hl)
theorem gc_idiv (C : Cc X A cc own Ts nL rm ret nm) {x y : Int32} {K : Option α} (h : chk (nzI y) K = some r0) (hd : decode cc pc = .ok (.idiv, 1)) (kk : K = some r0 → GC X A Q ws kc ks (pc + 1) lv (.int (x / y) :: st)) : GC X A Q ws kc ks pc lv (.int y :: .int x :: st) := by
  obtain ⟨p, l, e, R, s, m, args, below, meth, c, b, kc0, ks0⟩ := X
  obtain ⟨hx, hb, hml, hown, hts, hr, hlk, rfl, hK, hA, hnest, hover, hin⟩ := C
  intro H locs ls hP hD hS hl
  exact lv_idiv hx hb hd (of_decide_eq_true (chk_some h).1) (kk (chk_some h).2 H locs ls hP hD hS hl)
theorem gc_irem (C : Cc X A cc own Ts nL rm ret nm) {x y : Int32} {K : Option α} (h : chk (nzI y) K = some r0) (hd : decode cc pc = .ok (.irem, 1)) (kk : K = some r0 → GC X A Q ws kc ks (pc + 1) lv (.int (x - x / y * y) :: st)) : GC X A Q ws kc ks pc lv (.int y :: .int x :: st) := by
  obtain ⟨p, l, e, R, s, m, args, below, meth, c, b, kc0, ks0⟩ := X
  obtain ⟨hx, hb, hml, hown, hts, hr, hlk, rfl, hK, hA, hnest, hover, hin⟩ := C
  intro H locs ls hP hD hS hl
  exact lv_irem hx hb hd (of_decide_eq_true (chk_some h).1) (kk (chk_some h).2 H locs ls hP hD hS hl)
theorem gc_ldiv (C : Cc X A cc own Ts nL rm ret nm) {x y : Int64} {K : Option α} (h : chk (nzL y) K = some r0) (hd : decode cc pc = .ok (.ldiv, 1)) (kk : K = some r0 → GC X A Q ws kc ks (pc + 1) lv (.long (x / y) :: st)) : GC X A Q ws kc ks pc lv (.long y :: .long x :: st) := by
  obtain ⟨p, l, e, R, s, m, args, below, meth, c, b, kc0, ks0⟩ := X
  obtain ⟨hx, hb, hml, hown, hts, hr, hlk, rfl, hK, hA, hnest, hover, hin⟩ := C
  intro H locs ls hP hD hS hl
  exact lv_ldiv hx hb hd (of_decide_eq_true (chk_some h).1) (kk (chk_some h).2 H locs ls hP hD hS hl)
theorem gc_lrem (C : Cc X A cc own Ts nL rm ret nm) {x y : Int64} {K : Option α} (h : chk (nzL y) K = some r0) (hd : decode cc pc = .ok (.lrem, 1)) (kk : K = some r0 → GC X A Q ws kc ks (pc + 1) lv (.long (x - x / y * y) :: st)) : GC X A Q ws kc ks pc lv (.long y :: .long x :: st) := by
  obtain ⟨p, l, e, R, s, m, args, below, meth, c, b, kc0, ks0⟩ := X
  obtain ⟨hx, hb, hml, hown, hts, hr, hlk, rfl, hK, hA, hnest, hover, hin⟩ := C
  intro H locs ls hP hD hS hl
  exact lv_lrem hx hb hd (of_decide_eq_true (chk_some h).1) (kk (chk_some h).2 H locs ls hP hD hS hl)
theorem gc_lshl (C : Cc X A cc own Ts nL rm ret nm) {x : Int64} {y : Int32} (hd : decode cc pc = .ok (.lshl, 1)) (kk : GC X A Q ws kc ks (pc + 1) lv (.long (x <<< (y.toInt64 &&& 63)) :: st)) : GC X A Q ws kc ks pc lv (.int y :: .long x :: st) := by
  obtain ⟨p, l, e, R, s, m, args, below, meth, c, b, kc0, ks0⟩ := X
  obtain ⟨hx, hb, hml, hown, hts, hr, hlk, rfl, hK, hA, hnest, hover, hin⟩ := C
  intro H locs ls hP hD hS hl
  exact lv_lshl hx hb hd rfl (kk H locs ls hP hD hS hl)
theorem gc_lshr (C : Cc X A cc own Ts nL rm ret nm) {x : Int64} {y : Int32} (hd : decode cc pc = .ok (.lshr, 1)) (kk : GC X A Q ws kc ks (pc + 1) lv (.long (x >>> (y.toInt64 &&& 63)) :: st)) : GC X A Q ws kc ks pc lv (.int y :: .long x :: st) := by
  obtain ⟨p, l, e, R, s, m, args, below, meth, c, b, kc0, ks0⟩ := X
  obtain ⟨hx, hb, hml, hown, hts, hr, hlk, rfl, hK, hA, hnest, hover, hin⟩ := C
  intro H locs ls hP hD hS hl
  exact lv_lshr hx hb hd rfl (kk H locs ls hP hD hS hl)
theorem gc_lushr (C : Cc X A cc own Ts nL rm ret nm) {x : Int64} {y : Int32} (hd : decode cc pc = .ok (.lushr, 1)) (kk : GC X A Q ws kc ks (pc + 1) lv (.long (lus x y) :: st)) : GC X A Q ws kc ks pc lv (.int y :: .long x :: st) := by
  obtain ⟨p, l, e, R, s, m, args, below, meth, c, b, kc0, ks0⟩ := X
  obtain ⟨hx, hb, hml, hown, hts, hr, hlk, rfl, hK, hA, hnest, hover, hin⟩ := C
  intro H locs ls hP hD hS hl
  exact lv_lushr hx hb hd rfl (kk H locs ls hP hD hS hl)
theorem gc_i2l (C : Cc X A cc own Ts nL rm ret nm) {x : Int32} (hd : decode cc pc = .ok (.i2l, 1)) (kk : GC X A Q ws kc ks (pc + 1) lv (.long x.toInt64 :: st)) : GC X A Q ws kc ks pc lv (.int x :: st) := by
  obtain ⟨p, l, e, R, s, m, args, below, meth, c, b, kc0, ks0⟩ := X
  obtain ⟨hx, hb, hml, hown, hts, hr, hlk, rfl, hK, hA, hnest, hover, hin⟩ := C
  intro H locs ls hP hD hS hl
  exact lv_i2l hx hb hd rfl (kk H locs ls hP hD hS hl)
theorem gc_l2i (C : Cc X A cc own Ts nL rm ret nm) {x : Int64} (hd : decode cc pc = .ok (.l2i, 1)) (kk : GC X A Q ws kc ks (pc + 1) lv (.int x.toInt32 :: st)) : GC X A Q ws kc ks pc lv (.long x :: st) := by
  obtain ⟨p, l, e, R, s, m, args, below, meth, c, b, kc0, ks0⟩ := X
  obtain ⟨hx, hb, hml, hown, hts, hr, hlk, rfl, hK, hA, hnest, hover, hin⟩ := C
  intro H locs ls hP hD hS hl
  exact lv_l2i hx hb hd rfl (kk H locs ls hP hD hS hl)
theorem gc_i2b (C : Cc X A cc own Ts nL rm ret nm) {x : Int32} (hd : decode cc pc = .ok (.i2b, 1)) (kk : GC X A Q ws kc ks (pc + 1) lv (.int x.toInt8.toInt32 :: st)) : GC X A Q ws kc ks pc lv (.int x :: st) := by
  obtain ⟨p, l, e, R, s, m, args, below, meth, c, b, kc0, ks0⟩ := X
  obtain ⟨hx, hb, hml, hown, hts, hr, hlk, rfl, hK, hA, hnest, hover, hin⟩ := C
  intro H locs ls hP hD hS hl
  exact lv_i2b hx hb hd rfl (kk H locs ls hP hD hS hl)
theorem gc_lcmp (C : Cc X A cc own Ts nL rm ret nm) {x y : Int64} (hd : decode cc pc = .ok (.lcmp, 1)) (kk : GC X A Q ws kc ks (pc + 1) lv (.int (lg_cmp x y) :: st)) : GC X A Q ws kc ks pc lv (.long y :: .long x :: st) := by
  obtain ⟨p, l, e, R, s, m, args, below, meth, c, b, kc0, ks0⟩ := X
  obtain ⟨hx, hb, hml, hown, hts, hr, hlk, rfl, hK, hA, hnest, hover, hin⟩ := C
  intro H locs ls hP hD hS hl
  exact W.lcmp hx hb hd (kk H locs ls hP hD hS hl)
theorem gc_dup (C : Cc X A cc own Ts nL rm ret nm) {v : Value} (hd : decode cc pc = .ok (.dup, 1)) (hc : v.category = 1) (kk : GC X A Q ws kc ks (pc + 1) lv (v :: v :: st)) : GC X A Q ws kc ks pc lv (v :: st) := by
  obtain ⟨p, l, e, R, s, m, args, below, meth, c, b, kc0, ks0⟩ := X
  obtain ⟨hx, hb, hml, hown, hts, hr, hlk, rfl, hK, hA, hnest, hover, hin⟩ := C
  intro H locs ls hP hD hS hl
  exact lv_dup hx hb hd hc (kk H locs ls hP hD hS hl)
theorem gc_pop (C : Cc X A cc own Ts nL rm ret nm) {v : Value} (hd : decode cc pc = .ok (.pop, 1)) (hc : v.category = 1) (kk : GC X A Q ws kc ks (pc + 1) lv st) : GC X A Q ws kc ks pc lv (v :: st) := by
  obtain ⟨p, l, e, R, s, m, args, below, meth, c, b, kc0, ks0⟩ := X
  obtain ⟨hx, hb, hml, hown, hts, hr, hlk, rfl, hK, hA, hnest, hover, hin⟩ := C
  intro H locs ls hP hD hS hl
  exact lv_pop hx hb hd hc (kk H locs ls hP hD hS hl)
theorem gc_goto (C : Cc X A cc own Ts nL rm ret nm) {off : Int} {tgt : Nat} (hd : decode cc pc = .ok (.goto off, 3)) (ht : (pc : Int) + off = (tgt : Int)) (kk : GC X A Q ws kc ks tgt lv st) : GC X A Q ws kc ks pc lv st := by
  obtain ⟨p, l, e, R, s, m, args, below, meth, c, b, kc0, ks0⟩ := X
  obtain ⟨hx, hb, hml, hown, hts, hr, hlk, rfl, hK, hA, hnest, hover, hin⟩ := C
  intro H locs ls hP hD hS hl
  exact lv_goto hx hb hd ht (kk H locs ls hP hD hS hl)
theorem gc_swIn (C : Cc X A cc own Ts nL rm ret nm) {dflt lo hi : Int} {offs : Array Int} {len : Nat} {x : Int32} (v : Int32) (hx0 : x = v) {off : Int} {tgt : Nat} (hd : decode cc pc = .ok (.tableswitch dflt lo hi offs, len)) (h1 : ¬ v.toInt < lo) (h2 : ¬ hi < v.toInt) (ho : offs[(v.toInt - lo).toNat]? = some off) (ht : (pc : Int) + off = (tgt : Int)) (kk : GC X A Q ws kc ks tgt lv st) : GC X A Q ws kc ks pc lv (.int x :: st) := by
  obtain ⟨p, l, e, R, s, m, args, below, meth, c, b, kc0, ks0⟩ := X
  obtain ⟨hx, hb, hml, hown, hts, hr, hlk, rfl, hK, hA, hnest, hover, hin⟩ := C
  intro H locs ls hP hD hS hl
  exact lv_tableIn hx hb hd (by rw [hx0]; exact h1) (by rw [hx0]; exact h2) (by rw [hx0]; exact ho) ht (kk H locs ls hP hD hS hl)
theorem gc_swOut (C : Cc X A cc own Ts nL rm ret nm) {dflt lo hi : Int} {offs : Array Int} {len : Nat} {x : Int32} {tgt : Nat} (h : x.toInt < lo ∨ hi < x.toInt) (hd : decode cc pc = .ok (.tableswitch dflt lo hi offs, len)) (ht : (pc : Int) + dflt = (tgt : Int)) (kk : GC X A Q ws kc ks tgt lv st) : GC X A Q ws kc ks pc lv (.int x :: st) := by
  obtain ⟨p, l, e, R, s, m, args, below, meth, c, b, kc0, ks0⟩ := X
  obtain ⟨hx, hb, hml, hown, hts, hr, hlk, rfl, hK, hA, hnest, hover, hin⟩ := C
  intro H locs ls hP hD hS hl
  exact lv_tableOut hx hb hd h ht (kk H locs ls hP hD hS hl)
end CROWS
section CROWS2
variable {X : MC} {A : Nat → Prop} {Q : State → Prop} {F l : va_W} {kc ks : Nat} {pc : Nat} {lv : List (Nat × Value)} {st : List Value} {cc : ByteArray} {own : String} {Ts : List Cond} {nL : Nat} {rm : Room} {ret : Option FieldType} {nm : String}
theorem gc_weak {ws : va_W} {lv1 : List (Nat × Value)} (ps : List Nat) (hk : lv_pick lv ps = lv1) (kk : GC X A Q ws kc ks pc lv1 st) : GC X A Q ws kc ks pc lv st := by
  obtain ⟨p, l, e, R, s, m, args, below, meth, c, b, kc0, ks0⟩ := X
  intro H locs ls hP hD hS hl
  exact kk H locs ls hP hD hS (lv_sub hl ps hk)
theorem gc_icmp_ge (C : Cc X A cc own Ts nL rm ret nm) {ws : va_W} {x y : Int32} {off : Int} {tgt : Nat} (hd : decode cc pc = .ok (.if_icmp .ge off, 3)) (ht : (pc : Int) + off = (tgt : Int)) (kt : y ≤ x → GC X A Q ws kc ks tgt lv st) (kf : ¬ y ≤ x → GC X A Q ws kc ks (pc + 3) lv st) : GC X A Q ws kc ks pc lv (.int y :: .int x :: st) := by
  obtain ⟨p, l, e, R, s, m, args, below, meth, c, b, kc0, ks0⟩ := X
  obtain ⟨hx, hb, hml, hown, hts, hr, hlk, rfl, hK, hA, hnest, hover, hin⟩ := C
  intro H locs ls hP hD hS hl
  exact lv_icmp_ge hx hb hd ht (fun q => kt q H locs ls hP hD hS hl) (fun q => kf q H locs ls hP hD hS hl)
theorem gc_objinit (C : Cc X A cc own Ts nL rm ret nm) {a index : Nat} (h1 : Cond.methodLink own index objectInit ∈ Ts) (h2 : Cond.instanceMethod objectInit ∈ Ts) (h3 : Cond.code objectInit ⟨#[0xb1]⟩ 1 none ∈ Ts) (hfr : 1 ≤ rm.frames) (hlo : (st.map fun v => v.category).sum + 12 ≤ rm.locals) {ws : va_W} (hd : decode cc pc = .ok (.invokespecial index, 3)) (kk : GC X A Q ws kc ks (pc + 3) lv st) : GC X A Q ws kc ks pc lv (.ref a :: st) := by
  obtain ⟨p, l, e, R, s, m, args, below, meth, c, b, kc0, ks0⟩ := X
  obtain ⟨hx, hb, hml, hown, hts, hr, hlk, rfl, hK, hA, hnest, hover, hin⟩ := C
  intro H locs ls hP hD hS hl
  exact W.objInit hx hb hown (hts _ h1) (hts _ h2) (hts _ h3) rfl hl.1 rfl hd hfr (by show 2 * (F0 m pc ls (.ref a :: st)).monitorRoom + _ + 12 ≤ _; simpa [JFrame.monitorRoom] using hlo) (kk H locs ls hP hD hS hl)
theorem gc_putF (C : Cc X A cc own Ts nL rm ret "<init>") (k0 : Nat) {a ci N : Nat} {fs : List Value} {T : u_T} (l1 : va_W) (he : l[k0]? = some (a, .inr (ci, fs))) (hc : vwCl[ci]? = some (own, T, N)) (k : Nat) (hk : k < N) (hin : ∀ w ∈ u_ws own T N, w ∈ Ts) {ty0 : Nat → FieldType} (hty : ∀ k, k < N → parseFieldDescriptor (T k).2.2.1 = some (ty0 k)) (hnm : ∀ a, a < N → ∀ b, b < N → a ≠ b → (T a).2.1 ≠ (T b).2.1) {index : Nat} (hlink : Cond.fieldLink own index (T k).1 (T k).2.1 (T k).2.2.1 ∈ Ts) (hfin : (T k).2.2.2 = true) (hdecl : (T k).1 = own) {v : Value} (hn : narrow (ty0 k) v = v) (hfit : fits (ty0 k) v = true) (hlen : k < fs.length) (hl1 : l.set k0 (a, .inr (ci, fs.set k v)) = l1) (hd : decode cc pc = .ok (.putfield index, 3)) (kk : GC X A Q (F ++ l1) kc ks (pc + 3) lv st) : GC X A Q (F ++ l) kc ks pc lv (v :: .ref a :: st) := by
  obtain ⟨p, lx, e, R, s, m, args, below, meth, c, b, kc0, ks0⟩ := X
  obtain ⟨hx, hb, hml, hown, hts, hr, hlk, rfl, hK, hA, hnest, hover, hname⟩ := C
  intro H locs ls hP hD hS hl
  subst hl1
  refine va_putF hx hb hts hin ty0 hty hnm hown hK hP hD hS (F.length + k0) (by rw [app_at]; exact he) hc k hk (hts _ hlink) (fun _ q => q) hfin hname hdecl (hty k hk) hn hfit hlen hd (fun H1 locs1 hP1 hD1 hS1 => ?_)
  rw [app_set] at hP1 hD1
  exact kk H1 locs1 ls hP1 hD1 hS1 hl
theorem gc_put (C : Cc X A cc own Ts nL rm ret nm) (k0 : Nat) {a ci N : Nat} {fs : List Value} {T : u_T} (l1 : va_W) (he : l[k0]? = some (a, .inr (ci, fs))) (hc : vwCl[ci]? = some (own, T, N)) (k : Nat) (hk : k < N) (hin : ∀ w ∈ u_ws own T N, w ∈ Ts) {ty0 : Nat → FieldType} (hty : ∀ k, k < N → parseFieldDescriptor (T k).2.2.1 = some (ty0 k)) (hnm : ∀ a, a < N → ∀ b, b < N → a ≠ b → (T a).2.1 ≠ (T b).2.1) {index : Nat} (hlink : Cond.fieldLink own index (T k).1 (T k).2.1 (T k).2.2.1 ∈ Ts) (hfin : (T k).2.2.2 = false) {v : Value} (hn : narrow (ty0 k) v = v) (hfit : fits (ty0 k) v = true) (hlen : k < fs.length) (hl1 : l.set k0 (a, .inr (ci, fs.set k v)) = l1) (hd : decode cc pc = .ok (.putfield index, 3)) (kk : GC X A Q (F ++ l1) kc ks (pc + 3) lv st) : GC X A Q (F ++ l) kc ks pc lv (v :: .ref a :: st) := by
  obtain ⟨p, lx, e, R, s, m, args, below, meth, c, b, kc0, ks0⟩ := X
  obtain ⟨hx, hb, hml, hown, hts, hr, hlk, rfl, hK, hA, hnest, hover, hname⟩ := C
  intro H locs ls hP hD hS hl
  subst hl1
  refine va_put hx hb hts hin ty0 hty hnm hown hK hP hD hS (F.length + k0) (by rw [app_at]; exact he) hc k hk (hts _ hlink) (fun _ q => q) hfin (hty k hk) hn hfit hlen hd (fun H1 locs1 hP1 hD1 hS1 => ?_)
  rw [app_set] at hP1 hD1
  exact kk H1 locs1 ls hP1 hD1 hS1 hl
theorem gc_get (C : Cc X A cc own Ts nL rm ret nm) (k0 : Nat) {a ci N : Nat} {fs : List Value} {T : u_T} (he : l[k0]? = some (a, .inr (ci, fs))) (hc : vwCl[ci]? = some (own, T, N)) (k : Nat) (hk : k < N) (hin : ∀ w ∈ u_ws own T N, w ∈ Ts) {index : Nat} (hlink : Cond.fieldLink own index (T k).1 (T k).2.1 (T k).2.2.1 ∈ Ts) {v : Value} (hv : fs[k]? = some v) (hd : decode cc pc = .ok (.getfield index, 3)) (kk : GC X A Q (F ++ l) kc ks (pc + 3) lv (v :: st)) : GC X A Q (F ++ l) kc ks pc lv (.ref a :: st) := by
  obtain ⟨p, lx, e, R, s, m, args, below, meth, c, b, kc0, ks0⟩ := X
  obtain ⟨hx, hb, hml, hown, hts, hr, hlk, rfl, hK, hA, hnest, hover, hname⟩ := C
  intro H locs ls hP hD hS hl
  exact va_get hx hb hts hin hown hK hP (F.length + k0) (by rw [app_at]; exact he) hc k hk (hts _ hlink) (fun _ q => q) hv hd (kk H locs ls hP hD hS hl)
theorem gc_alen (C : Cc X A cc own Ts nL rm ret nm) (k0 : Nat) {a t0 : Nat} {ty : FieldType} {x : vp_A} {cA : ClassId} (he : l[k0]? = some (a, .inl (cA, x))) (ht : (btys (Xb X))[t0]? = some (cA, ty)) {v : Int32} (hv : Int32.ofNat x.1 = v) (hd : decode cc pc = .ok (.arraylength, 1)) (kk : GC X A Q (F ++ l) kc ks (pc + 1) lv (.int v :: st)) : GC X A Q (F ++ l) kc ks pc lv (.ref a :: st) := by
  obtain ⟨p, lx, e, R, s, m, args, below, meth, c, b, kc0, ks0⟩ := X
  obtain ⟨hx, hb, hml, hown, hts, hr, hlk, rfl, hK, hA, hnest, hover, hname⟩ := C
  intro H locs ls hP hD hS hl
  exact va_alen hx hb hK hP (F.length + k0) t0 (by rw [app_at]; exact he) ht hv hd (kk H locs ls hP hD hS hl)
theorem gc_iast (C : Cc X A cc own Ts nL rm ret nm) (k0 : Nat) {a n : Nat} {f : Nat → Int32} {i x : Int32} (l1 : va_W) (he : l[k0]? = some (a, .inl (bcy (Xb X) 1, n, .inl f))) (hin : vp_in i n) (hl1 : l.set k0 (a, .inl (bcy (Xb X) 1, n, .inl (upd f i.toNatClampNeg x))) = l1) (hd : decode cc pc = .ok (.iastore, 1)) (kk : GC X A Q (F ++ l1) kc ks (pc + 1) lv st) : GC X A Q (F ++ l) kc ks pc lv (.int x :: .int i :: .ref a :: st) := by
  obtain ⟨p, lx, e, R, s, m, args, below, meth, c, b, kc0, ks0⟩ := X
  obtain ⟨hx, hb, hml, hown, hts, hr, hlk, rfl, hK, hA, hnest, hover, hname⟩ := C
  intro H locs ls hP hD hS hl
  subst hl1
  refine va_iast hx hb hK hP hD hS (F.length + k0) 1 (by rw [app_at]; exact he) rfl hin hd (fun H1 locs1 hP1 hD1 hS1 => ?_)
  rw [app_set] at hP1 hD1
  exact kk H1 locs1 ls hP1 hD1 hS1 hl
/-- the class of arrays of a kind is the one that stands -/
theorem same_cls {s : State} {b : Bw} {cA cB : ClassId} {ty : FieldType} (h1 : va_RA s cA ty) (h2 : va_RA s cB ty) (hp : ∀ C, ty ≠ .object C) : cA = cB := by
  cases ty with
  | object C => exact absurd rfl (hp C)
  | _ => exact Option.some.inj (h1.symm.trans h2)
theorem gc_newarr (C : Cc X A cc own Ts nL rm ret nm) {atype : ArrayType} (ty : FieldType) (t0 : Nat) {cB : ClassId} (h1 : Cond.arrayClass ty ∈ Ts) (hty : newarray.typeOf atype = ty) (hp : ∀ C, ty ≠ .object C) (ht : (btys (Xb X))[t0]? = some (cB, ty)) {n : Int32} (N : Nat) (a0 : vp_A) (ha : ∀ cA : ClassId, vp_cell cA a0 = arrV cA N (fun _ => defaultValue ty)) (hn : ¬ n < 0) (hN : n.toNatClampNeg = N) (hby : N * componentBytes ty ≤ 536870912) (hcells : kc + 1 ≤ rm.cells) (hslots : ks + N ≤ rm.slots) (hd : decode cc pc = .ok (.newarray atype, 2)) (kk : ∀ q : Nat, GC X A Q (F ++ (l ++ [(q, .inl (cB, a0))])) (kc + 1) (ks + N) (pc + 2) lv (.ref q :: st)) : GC X A Q (F ++ l) kc ks pc lv (.int n :: st) := by
  obtain ⟨p, lx, e, R, s, m, args, below, meth, c, b, kc0, ks0⟩ := X
  obtain ⟨hx, hb, hml, hown, hts, hr, hlk, rfl, hK, hA, hnest, hover, hname⟩ := C
  intro H locs ls hP hD hS hl
  refine va_newa hx hb (atype := atype) (by rw [hty]; exact hts _ h1) hty hK hP hD hS hA ha hn hN hby hcells hslots hd (fun q cA H1 hK1 hP1 hD1 hS1 => ?_)
  have e1 : (btys b ++ [(cA, ty)])[(btys b).length]? = some (cA, ty) := by rw [List.getElem?_append_right (Nat.le_refl _), Nat.sub_self]; rfl
  have e2 := (hK1.2 _ _ e1).2
  have e3 := (hK.2 t0 _ ht).2
  have e4 : cA = cB := same_cls (b := b) e2 e3 hp
  subst e4
  rw [List.append_assoc] at hP1 hD1
  exact kk q H1 locs ls hP1 hD1 hS1 hl
theorem gc_new (C : Cc X A cc own Ts nL rm ret nm) {Cn : String} {T : u_T} {N ci index : Nat} {ws : va_W} (hin : ∀ w ∈ u_ws Cn T N, w ∈ Ts) (ty : Nat → FieldType) (hty : ∀ k, k < N → parseFieldDescriptor (T k).2.2.1 = some (ty k)) (h1 : Cond.classLink own index Cn ∈ Ts) (h2 : Cond.instantiable Cn N ∈ Ts) (h3 : Cond.initialized Cn ∈ Ts) (hc : vwCl[ci]? = some (Cn, T, N)) (fs : List Value) (hfs : ∀ j, j < N → defaultValue (ty j) = vp_V fs j) (hcells : kc + 1 ≤ rm.cells) (hslots : ks + N ≤ rm.slots) (hd : decode cc pc = .ok (.new index, 3)) (kk : ∀ q : Nat, GC X A Q (ws ++ [(q, .inr (ci, fs))]) (kc + 1) (ks + N) (pc + 3) lv (.ref q :: st)) : GC X A Q ws kc ks pc lv st := by
  obtain ⟨p, lx, e, R, s, m, args, below, meth, c, b, kc0, ks0⟩ := X
  obtain ⟨hx, hb, hml, hown, hts, hr, hlk, rfl, hK, hA, hnest, hover, hname⟩ := C
  intro H locs ls hP hD hS hl
  exact va_new hx hb hts hin ty hty hown (hts _ h1) (hts _ h2) (hts _ h3) hK hP hD hS hA hc hfs hcells hslots hd (fun q H1 hP1 hD1 hS1 => kk q H1 locs ls hP1 hD1 hS1 hl)
theorem va_A_sub {A : Nat → Prop} {ws : va_W} {H0 H : Heap} {locs : List Loc} (hD : va_D A ws) (hS : va_S A H0 H locs) (hA : ∀ q, H0.size ≤ q → A q) : ∀ q, va_A ws H.size q → A q := by
  intro q h
  rcases h with ⟨k, e, h⟩ | h
  · exact hD.2 k (q, e) h
  · exact hA q (Nat.le_trans hS.1 h)
theorem Cw_calling {b : Bw} {ws : va_W} {sz : Nat} {vs : List Value} : FrameBlind (va_Pc vs (Cw b ws sz)) := by
  intro a U g mk h
  obtain ⟨h0, h1, h2, h3, h4, h5, h6⟩ := h
  exact ⟨h0, h1, h2, va_K.moved (u := U) (U := U.calling g mk a) (Vm.Alike.refl U.vm) h3, h4, fun w hw => va_Nw.same (u := U) (U := U.calling g mk a) (nest_tab (nest_all w hw)) rfl (h5 w hw), over_moved (u := U) (E := U.calling g mk a) (Vm.Alike.refl U.vm) h6⟩
theorem callC {p : Program} {lx : Launch} {e : Env} {R : Room} {s : State} {m : MethodId} {args : Array Value} {below : List Frame} {meth : Method} {c : Code} {H : Heap} {locs : List Loc} {ls : Array Slot} {rest st0 : List Value} {a : Array Value} {A1 : Nat → Prop} {free : Addr → Prop} {b : Bw} {v : Option Value} {h0 mc ms : Nat} {W1 : (Nat → Nat) → va_W} (hr : va_Run p lx e R s m args below meth c H locs kc ks mc ms (F0 m pc ls st0) rest (QC b v h0 W1 A1 a) free) (hS : va_S A s.heap H locs) (hA1 : ∀ q, A1 q → A q) (hf : ∀ q, free q → A q)
    (kk : ∀ (q : Nat → Nat) (H1 : Heap) (locs1 : List Loc), q 0 = h0 → va_P (bD b) vwCl (W1 q) H1 → va_D A (W1 q) → va_S A s.heap H1 locs1 → W p lx e R s m args below meth c H1 locs1 (kc + mc) (ks + ms) Q (F0 m (pc + 3) ls (v.toList ++ rest))) : W p lx e R s m args below meth c H locs kc ks Q (F0 m pc ls st0) := by
  intro T hT X
  obtain ⟨v1, st₀, t, T', L, h0', X', hL, e1, e2, ⟨hv, ⟨q, hq0, hP1, hD1⟩, hz, hk⟩, stp⟩ := hr T hT X
  cases hv
  rw [h0'] at hz hk
  obtain ⟨t2, a1, b1⟩ := kk q T'.heap (locs ++ L) hq0 (by rw [e1]; exact hP1) (hD1.weaken (fun _ _ _ h => hA1 _ h))
    ⟨Nat.le_trans hS.1 (by rw [e1]; exact hz), fun q h1 h2 => by rw [e1, hk q (Nat.lt_of_lt_of_le h1 hS.1) (fun z => h2 (hA1 q z))]; exact hS.2.1 q h1 h2, fun q hq => by
      rcases List.mem_append.mp hq with h | h
      · exact hS.2.2 q h
      · exact hf _ (hL q h)⟩ T' rfl X'
  exact ⟨t2, stp t2 a1, b1⟩
theorem pre_C {s : State} {H : Heap} {locs : List Loc} {b : Bw} {ws : va_W} (hP : va_P (bD b) vwCl ws H) (hD : va_D A ws) (hK : va_K (bD b) vwCl (btys b) s) (hnest : ∀ w ∈ nestWs, va_Nw w s) (hover : (Cond.arrayOver (.array .int)).before #[] s = true) (As : List Value) : ∀ U : State, U.heap = H → s.WarmedH U.vm → va_Pc As (Cw b ws H.size) As.toArray U := by
  intro U hU hW
  exact ⟨rfl, by rw [hU], by rw [hU]; exact hP, va_K.moved hW.alike hK, hD.weaken (fun _ _ _ _ => trivial), fun w hw => nest_warm (nest_all w hw) hW (hnest w hw), over_moved hW.alike hover⟩
/-- a constructor of a nest mate -/
theorem gc_callIN (C : Cc X A cc own Ts nL rm ret nm) {y : MethodName} {wsy wsy' : List Cond} {bytes : ByteArray} {maxL index a mc ms : Nat} {host : String} {rm1 : Room} {ws W0 : va_W} {W1 : (Nat → Nat) → va_W} (hM : Ck (Xl X) (Xb X) y wsy rm1 [.ref a] none W0 a W1 mc ms) (hW0 : ws = W0) (hg : GoodIn Ts wsy) (hw : wsy = .code y bytes maxL none :: wsy') (hrc : rm1.cells = mc) (hrs : rm1.slots = ms) (hlink : Cond.methodLinkNest own index y host ∈ nestWs) (hini : Cond.initialized y.cls ∈ Ts) (hnm : y.name = "<init>") (hinst : Cond.instanceMethod y ∈ Ts) (hd1 : y.cls ≠ "java/lang/invoke/MethodHandle" ∧ y.cls ≠ "java/lang/invoke/VarHandle" ∧ (parseMethodDescriptor y.desc).map (fun d => d.parameters.length) = some 0) (hroom : rm1.frames + 1 ≤ rm.frames ∧ 8 + (maxL + 11) + rm1.locals ≤ rm.locals) (hcat : (st.map fun v => v.category).sum ≤ 8) (hcells : kc + mc ≤ rm.cells) (hslots : ks + ms ≤ rm.slots) (hd : decode cc pc = .ok (.invokespecial index, 3)) (kk : ∀ q : Nat → Nat, q 0 = a → GC X A Q (W1 q) (kc + mc) (ks + ms) (pc + 3) lv st) : GC X A Q ws kc ks pc lv (.ref a :: st) := by
  obtain ⟨p, lx, e, R, s, m, args, below, meth, c, b, kc0, ks0⟩ := X
  obtain ⟨hx, hb, hml, hown, hts, hr, hlk, rfl, hK, hA, hnest, hover, hname⟩ := C
  intro H locs ls hP hD hS hl
  subst hW0
  have cw : va_CN R s args own index y host bytes maxL none wsy rm1 mc ms 0 := va_cnB 0 hts hg hw hrc hrs (hnest _ hlink) (hts _ hini) hd1 hroom
  refine callC (va_runIN (As := []) (rest := st) ⟨hx, hb, hml, hown, hts⟩ (hM H.size) ⟨cw, hnm, hts _ hinst⟩ ⟨Cw_calling, pre_C (locs := locs) hP hD hK hnest hover [.ref a]⟩ rfl rfl (hl.1.trans hml) rfl (lv_room hcat) hd ⟨hcells, hslots⟩) hS (va_A_sub hD hS hA) (va_A_sub hD hS hA) (fun q H1 locs1 hq hP1 hD1 hS1 => ?_)
  exact kk q hq H1 locs1 ls hP1 hD1 hS1 hl
/-- a public constructor -/
theorem gc_callI (C : Cc X A cc own Ts nL rm ret nm) {y : MethodName} {wsy wsy' : List Cond} {bytes : ByteArray} {maxL index a mc ms n : Nat} {As : List Value} {rm1 : Room} {ws W0 : va_W} {W1 : (Nat → Nat) → va_W} {stk : List Value} (hM : Ck (Xl X) (Xb X) y wsy rm1 (.ref a :: As) none W0 a W1 mc ms) (hW0 : ws = W0) (hg : GoodIn Ts wsy) (hw : wsy = .code y bytes maxL none :: wsy') (hrc : rm1.cells = mc) (hrs : rm1.slots = ms) (hlink : Cond.methodLink own index y ∈ Ts) (hini : Cond.initialized y.cls ∈ Ts) (hnm : y.name = "<init>") (hinst : Cond.instanceMethod y ∈ Ts) (hd1 : y.cls ≠ "java/lang/invoke/MethodHandle" ∧ y.cls ≠ "java/lang/invoke/VarHandle" ∧ (parseMethodDescriptor y.desc).map (fun d => d.parameters.length) = some n) (hroom : rm1.frames + 1 ≤ rm.frames ∧ 8 + (maxL + 11) + rm1.locals ≤ rm.locals) (hn : As.length = n) (hst : stk = As.reverse ++ .ref a :: st) (hcat : (st.map fun v => v.category).sum ≤ 8) (hcells : kc + mc ≤ rm.cells) (hslots : ks + ms ≤ rm.slots) (hd : decode cc pc = .ok (.invokespecial index, 3)) (kk : ∀ q : Nat → Nat, q 0 = a → GC X A Q (W1 q) (kc + mc) (ks + ms) (pc + 3) lv st) : GC X A Q ws kc ks pc lv stk := by
  obtain ⟨p, lx, e, R, s, m, args, below, meth, c, b, kc0, ks0⟩ := X
  obtain ⟨hx, hb, hml, hown, hts, hr, hlk, rfl, hK, hA, hnest, hover, hname⟩ := C
  intro H locs ls hP hD hS hl
  subst hW0
  have cw : CallB R s args own index y bytes maxL none wsy rm1 mc ms n := callB_of n hts hg hw hrc hrs (hts _ hini) (hts _ hlink) hd1 hroom
  refine callC (va_runI (As := As) (rest := st) ⟨hx, hb, hml, hown, hts⟩ (hM H.size) ⟨cw, hnm, hts _ hinst⟩ ⟨Cw_calling, pre_C (locs := locs) hP hD hK hnest hover (.ref a :: As)⟩ rfl hn (hl.1.trans hml) hst (lv_room hcat) hd ⟨hcells, hslots⟩) hS (va_A_sub hD hS hA) (va_A_sub hD hS hA) (fun q H1 locs1 hq hP1 hD1 hS1 => ?_)
  exact kk q hq H1 locs1 ls hP1 hD1 hS1 hl
/-- a method on the object that is being made -/
theorem gc_callV (C : Cc X A cc own Ts nL rm ret nm) {y : MethodName} {wsy wsy' : List Cond} {bytes : ByteArray} {maxL index a k0 ci N : Nat} {fs : List Value} {T : u_T} {rt : FieldType} {v : Value} {rm1 : Room} {W0 : va_W} {W1 : (Nat → Nat) → va_W} (hM : Ck (Xl X) (Xb X) y wsy rm1 [.ref a] (some v) W0 a W1 0 0) (hW0 : F ++ l = W0) (hg : GoodIn Ts (wsV own index own y wsy)) (hw : wsy = .code y bytes maxL (some rt) :: wsy') (hrc : rm1.cells = 0) (hrs : rm1.slots = 0) (hd1 : y.cls = own ∧ y.cls ≠ "java/lang/invoke/MethodHandle" ∧ y.cls ≠ "java/lang/invoke/VarHandle" ∧ (parseMethodDescriptor y.desc).map (fun d => d.parameters.length) = some 0) (hroom : rm1.frames + 1 ≤ rm.frames ∧ 8 + (maxL + 11) + rm1.locals ≤ rm.locals) (he : l[k0]? = some (a, .inr (ci, fs))) (hc : vwCl[ci]? = some (own, T, N)) (hcat : (st.map fun v => v.category).sum ≤ 8) (hcells : kc ≤ rm.cells) (hslots : ks ≤ rm.slots) (hd : decode cc pc = .ok (.invokevirtual index, 3)) (kk : ∀ q : Nat → Nat, q 0 = a → GC X A Q (W1 q) kc ks (pc + 3) lv (v :: st)) : GC X A Q (F ++ l) kc ks pc lv (.ref a :: st) := by
  obtain ⟨p, lx, e, R, s, m, args, below, meth, c, b, kc0, ks0⟩ := X
  obtain ⟨hx, hb, hml, hown, hts, hr, hlk, rfl, hK, hA, hnest, hover, hname⟩ := C
  intro H locs ls hP hD hS hl
  subst hW0
  have cw : CallW R s args own own index y bytes maxL (some rt) wsy rm1 0 0 0 := cwV 0 hts hg hw hrc hrs hd1 hroom
  refine callC (va_runV (As := []) (rest := st) ⟨hx, hb, hml, hown, hts⟩ (hM H.size) cw ⟨Cw_calling, va_recv hK hP hc (q0 := F.length + k0) (by rw [app_at]; exact he), pre_C (locs := locs) hP hD hK hnest hover [.ref a]⟩ rfl rfl (hl.1.trans hml) rfl (lv_room hcat) hd ⟨hcells, hslots⟩) hS (va_A_sub hD hS hA) (va_A_sub hD hS hA) (fun q H1 locs1 hq hP1 hD1 hS1 => ?_)
  exact kk q hq H1 locs1 ls hP1 hD1 hS1 hl
def QMC (X : MC) (A : Nat → Prop) (v : Option Value) (h0 : Nat) (W1 : (Nat → Nat) → va_W) (mc ms : Nat) : State → Prop := match X with
  | (p, l, e, R, s, m, args, below, meth, c, b, _, _) => MQ below (QC b v h0 W1 A) args s mc ms A
theorem gc_vret (C : Cc X A cc own Ts nL rm none nm) {h0 : Nat} {W1 : (Nat → Nat) → va_W} {ws : va_W} (q : Nat → Nat) (hq : q 0 = h0) (hW : ws = W1 q) (hd : decode cc pc = .ok (.return_, 1)) : GC X A (QMC X A none h0 W1 kc ks) ws kc ks pc lv [] := by
  obtain ⟨p, lx, e, R, s, m, args, below, meth, c, b, kc0, ks0⟩ := X
  obtain ⟨hx, hb, hml, hown, hts, hr, hlk, rfl, hK, hA, hnest, hover, hname⟩ := C
  intro H locs ls hP hD hS hl
  subst hW
  exact W.vret hx hb hr (fun t ht hW => ⟨rfl, ⟨q, hq, by rw [ht]; exact hP, hD⟩, hS.F ht⟩) hS.2.2 hd hlk
theorem gc_iret (C : Cc X A cc own Ts nL rm (some .int) nm) {h0 : Nat} {W1 : (Nat → Nat) → va_W} {ws : va_W} {v : Int32} (q : Nat → Nat) (hq : q 0 = h0) (hW : ws = W1 q) (hd : decode cc pc = .ok (.ireturn, 1)) : GC X A (QMC X A (some (.int v)) h0 W1 kc ks) ws kc ks pc lv [.int v] := by
  obtain ⟨p, lx, e, R, s, m, args, below, meth, c, b, kc0, ks0⟩ := X
  obtain ⟨hx, hb, hml, hown, hts, hr, hlk, rfl, hK, hA, hnest, hover, hname⟩ := C
  intro H locs ls hP hD hS hl
  subst hW
  exact W.iret hx hb hr (fun t ht hW => ⟨rfl, ⟨q, hq, by rw [ht]; exact hP, hD⟩, hS.F ht⟩) hS.2.2 hd hlk
end CROWS2
theorem Ck.of {l : Launch} {b : Bw} {y : MethodName} {ws ws' : List Cond} {rm : Room} {vs : List Value} {v : Option Value} {W0 : va_W} {h0 mc ms : Nat} {W1 : (Nat → Nat) → va_W} {cc : ByteArray} {nL : Nat} {ret : Option FieldType} (hy : plainFor y = true) (hw : ws = .code y cc nL ret :: ws') (hvs : (lg_sl vs).length ≤ nL)
    (body : ∀ (X : MC) (A : Nat → Prop), Cc X A cc y.cls ws nL rm ret y.name → Xl X = l → Xb X = b → GC X A (QMC X A v h0 W1 mc ms) W0 0 0 0 (lv_args 0 vs) []) : Ck l b y ws rm vs v W0 h0 W1 mc ms := by
  intro sz
  refine Met_ofWF (cc := cc) (maxL := nL) (ret := ret) hy hw ?_
  intro p e s m args below meth c s₁ B hml hv
  obtain ⟨rfl, hsz, hP, hK, hD, hN, hO⟩ := hv
  subst hsz
  have hl := lv_entry vs (n := nL) hvs
  rw [lg_entry_eq]
  have hX := body (p, l, e, (headSpec ws rm).room, s, m, vs.toArray, below, meth, c, b, 0, 0) (va_A W0 s.heap.size) ⟨B.exec, B.bytes, hml, findClass_of_methodNamed B.named, atoms_spec (ws := ws) B.pre, B.returns, B.notSynchronized, rfl, hK, fun q h => Or.inr h, hN, hO, (name_of_methodNamed B.named B.method).1⟩ rfl rfl
  exact hX s.heap [] _ hP hD.self va_S.rf (by rw [hml]; exact hl)
