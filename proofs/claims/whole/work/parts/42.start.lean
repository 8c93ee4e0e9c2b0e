/-! ===== the script's cell ===== -/
def cellv (L : Nat) (xs : Nat → Int32) (k : Int32) : Int32 := if nI L ≤ k then 0 else xs k.toNatClampNeg
def rmL_cell : Room := { frames := 0, cells := 0, slots := 0, locals := 0 }
set_option maxRecDepth 100000 in
set_option maxHeartbeats 4000000 in
theorem c_L_cell (l : Launch) (sb L : Nat) (xs : Nat → Int32) (hL : L < 2 ^ 31) (H0 : Heap) : Met l yL_cell wsL_cell rmL_cell (va_Pc [.ref sb, .int 0] (fun U => U.heap = H0 ∧ va_X sb L xs U U.heap ∧ sb < U.heap.size)) (fun _ st oc t => oc = .returned (some (.int (cellv L xs 0))) ∧ t.heap = st.heap) 0 0 (fun _ => False) := by
  refine Met_ofWF (cc := cL_cell) (maxL := 2) (ret := some .int) (by decide +kernel) rfl ?_
  intro p e s m args below meth c s₁ B hml hv
  obtain ⟨rfl, hh, hX, hsb⟩ := hv
  have hx := B.exec
  have hb := B.bytes
  have hr := B.returns
  have hlk := B.notSynchronized
  have hS : va_S (fun _ => False) s.heap s.heap [] := va_S.rf
  have hl := lv_entry ([.ref sb, .int 0]) (n := 2) (Nat.le_of_ble_eq_true rfl)
  rw [lg_entry_eq]
  generalize (lg_sl ([.ref sb, .int 0]) ++ List.replicate (2 - (lg_sl ([.ref sb, .int 0])).length) Slot.unset).toArray = ls at hl ⊢
  have hl : lv_has ls 2 [(0, .ref sb), (1, .int 0)] := hl
  refine lv_iload_n hx hb dL_cell_0 rfl (lv_at hl 1 rfl) ?_
  refine lv_aload_n hx hb dL_cell_1 rfl (lv_at hl 0 rfl) ?_
  refine va_slen hx hb hX hsb (fun h => h) hS dL_cell_2 ?_
  refine lv_icmp_ge (tgt := 12) hx hb dL_cell_3 (by decide) (fun q => ?_) (fun q => ?_)
  · have q : nI L ≤ 0 := q
    refine lv_iconst (v := 0) hx hb dL_cell_12 (by decide) ?_
    exact W.iret hx hb hr (fun t ht hW => ⟨by unfold cellv; rw [if_pos q], ht⟩) (fun _ h => by cases h) dL_cell_13 hlk
  · have q : ¬ nI L ≤ 0 := q
    have h0 : 0 < L := by
      rcases Nat.eq_zero_or_pos L with z | z
      · subst z; exact absurd (show (nI 0 : Int32) ≤ 0 by decide) q
      · exact z
    refine lv_aload_n hx hb dL_cell_6 rfl (lv_at hl 0 rfl) ?_
    refine lv_iload_n hx hb dL_cell_7 rfl (lv_at hl 1 rfl) ?_
    refine va_sld hx hb hX hsb (fun h => h) hS (vp_in_nI (n := 0) h0 hL) dL_cell_8 ?_
    refine lv_goto (tgt := 13) hx hb dL_cell_9 (by decide) ?_
    exact W.iret hx hb hr (fun t ht hW => ⟨by unfold cellv; rw [if_neg q], ht⟩) (fun _ h => by cases h) dL_cell_13 hlk

def permL : List Nat := [0, 1, 2, 8, 12, 16, 18, 25, 26, 27, 36, 39, 48, 3, 4, 5, 6, 7, 9, 10, 11, 13, 14, 15, 17, 19, 20, 21, 22, 23, 24, 28, 29, 30, 31, 32, 33, 34, 35, 37, 38, 40, 41, 42, 43, 44, 45, 46, 47, 49, 50, 51, 52, 53, 54, 55, 56, 57, 58, 59, 60, 61, 62, 63, 64, 65, 66]
def adL (q q2 : Nat → Nat) : List Nat := [q 0, q 1, q 2, q 8, q 12, q 16, q 18, q 25, q 26, q 27, q 36, q 39, q2 0, q 3, q 4, q 5, q 6, q 7, q 9, q 10, q 11, q 13, q 14, q 15, q 17, q 19, q 20, q 21, q 22, q 23, q 24, q 28, q 29, q 30, q 31, q 32, q 33, q 34, q 35, q 37, q 38, q 40, q 41, q 42, q 43, q 44, q 45, q 46, q 47, q2 1, q2 2, q2 3, q2 4, q2 5, q2 6, q2 7, q2 8, q2 9, q2 10, q2 11, q2 12, q2 13, q2 14, q2 15, q2 16, q2 17, q2 18]
theorem world_get (b : Bw) (S : St) (k : Nat) (h : k < nW) : ∃ e, (world b S)[k]? = some (bad b k, e) := by
  have h1 : k < (world b S).length := by rw [world_len]; exact h
  refine ⟨((world b S)[k]'h1).2, ?_⟩
  have h2 : (world b S)[k]? = some ((world b S)[k]'h1) := List.getElem?_eq_getElem h1
  rw [h2]
  have h3 := (world_at h2).2
  exact congrArg some (Prod.ext h3 rfl)
set_option maxRecDepth 100000 in
set_option maxHeartbeats 8000000 in
theorem world_made (dD : va_G) (cy K V T : Nat → Nat) (q q2 : Nat → Nat) (sd : Int64) : permL.filterMap (fun i => (cw_X11 (dD, (fun k => (adL q q2).getD k 0), cy, K, V, T) q sd ++ cw_X12 (dD, (fun k => (adL q q2).getD k 0), cy, K, V, T) q2 sd)[i]?) = world (dD, (fun k => (adL q q2).getD k 0), cy, K, V, T) (S0 sd) := by
  have e1 : (fun i => if i < 4 then some (bad ((dD, (fun k => (adL q q2).getD k 0), cy, K, V, T) : Bw) (26 + i)) else none) = (fun i => if i < 4 then some (sh 18 q (i + 2)) else none) := by
    funext i
    match i with
    | 0 => rfl
    | 1 => rfl
    | 2 => rfl
    | 3 => rfl
    | n + 4 => rw [if_neg (by omega), if_neg (by omega)]
  have e2 : (fun i => if i < 7 then some (bad ((dD, (fun k => (adL q q2).getD k 0), cy, K, V, T) : Bw) (32 + i)) else none) = (fun i => if i < 7 then some (sh 1 (sh 26 q) (i + 2)) else none) := by
    funext i
    match i with
    | 0 => rfl
    | 1 => rfl
    | 2 => rfl
    | 3 => rfl
    | 4 => rfl
    | 5 => rfl
    | 6 => rfl
    | n + 7 => rw [if_neg (by omega), if_neg (by omega)]
  have e3 : (fun i => if i < 7 then some (bad ((dD, (fun k => (adL q q2).getD k 0), cy, K, V, T) : Bw) (42 + i)) else none) = (fun i => if i < 7 then some (sh 39 q (i + 2)) else none) := by
    funext i
    match i with
    | 0 => rfl
    | 1 => rfl
    | 2 => rfl
    | 3 => rfl
    | 4 => rfl
    | 5 => rfl
    | 6 => rfl
    | n + 7 => rw [if_neg (by omega), if_neg (by omega)]
  unfold world
  rw [e1, e2, e3]
  rfl
set_option maxRecDepth 100000 in
set_option maxHeartbeats 8000000 in
theorem world_made2 (dD : va_G) (cy K V T : Nat → Nat) (q q2 : Nat → Nat) (sd : Int64) : permL.map (fun i => (cw_X11 (dD, (fun k => (adL q q2).getD k 0), cy, K, V, T) q sd ++ cw_X12 (dD, (fun k => (adL q q2).getD k 0), cy, K, V, T) q2 sd)[i]?) = List.map some (world (dD, (fun k => (adL q q2).getD k 0), cy, K, V, T) (S0 sd)) := by
  have e1 : (fun i => if i < 4 then some (bad ((dD, (fun k => (adL q q2).getD k 0), cy, K, V, T) : Bw) (26 + i)) else none) = (fun i => if i < 4 then some (sh 18 q (i + 2)) else none) := by
    funext i
    match i with
    | 0 => rfl
    | 1 => rfl
    | 2 => rfl
    | 3 => rfl
    | n + 4 => rw [if_neg (by omega), if_neg (by omega)]
  have e2 : (fun i => if i < 7 then some (bad ((dD, (fun k => (adL q q2).getD k 0), cy, K, V, T) : Bw) (32 + i)) else none) = (fun i => if i < 7 then some (sh 1 (sh 26 q) (i + 2)) else none) := by
    funext i
    match i with
    | 0 => rfl
    | 1 => rfl
    | 2 => rfl
    | 3 => rfl
    | 4 => rfl
    | 5 => rfl
    | 6 => rfl
    | n + 7 => rw [if_neg (by omega), if_neg (by omega)]
  have e3 : (fun i => if i < 7 then some (bad ((dD, (fun k => (adL q q2).getD k 0), cy, K, V, T) : Bw) (42 + i)) else none) = (fun i => if i < 7 then some (sh 39 q (i + 2)) else none) := by
    funext i
    match i with
    | 0 => rfl
    | 1 => rfl
    | 2 => rfl
    | 3 => rfl
    | 4 => rfl
    | 5 => rfl
    | 6 => rfl
    | n + 7 => rw [if_neg (by omega), if_neg (by omega)]
  unfold world
  rw [e1, e2, e3]
  rfl
def ScrC (X : MC) (A : Nat → Prop) (sb L : Nat) (xs : Nat → Int32) : Prop := match X with
  | (p, l, e, R, s, m, args, below, meth, c, b, _, _) => va_X sb L xs s s.heap ∧ sb < s.heap.size ∧ ¬ A sb
theorem hd_L_cell : yL_cell.cls ≠ "java/lang/invoke/MethodHandle" ∧ yL_cell.cls ≠ "java/lang/invoke/VarHandle" ∧ (parseMethodDescriptor yL_cell.desc).map (fun d => d.parameters.length) = some 2 := by decide +kernel
theorem gc_cell {X : MC} {A : Nat → Prop} {Q : State → Prop} {ws : va_W} {kc ks : Nat} {pc : Nat} {lv : List (Nat × Value)} {st : List Value} {nm : String} (C : Cc X A cL_law RL lw_tbl 4 room_1 ret nm) {sb L : Nat} {xs : Nat → Int32} (hL : L < 2 ^ 31) (hc : ScrC X A sb L xs) (hcat : (st.map fun v => v.category).sum ≤ 8) (hcells : kc ≤ room_1.cells) (hslots : ks ≤ room_1.slots) (hd : decode cL_law pc = .ok (.invokestatic 9, 3)) (kk : GC X A Q ws kc ks (pc + 3) lv (.int (cellv L xs 0) :: st)) : GC X A Q ws kc ks pc lv (.int 0 :: .ref sb :: st) := by
  obtain ⟨p, lx, e, R, s, m, args, below, meth, c, b, kc0, ks0⟩ := X
  obtain ⟨hx, hb, hml, hown, hts, hr, hlk, rfl, hK, hA, hnest, hover, hname⟩ := C
  obtain ⟨hX, hsb, hsA⟩ := hc
  intro H locs ls hP hD hS hl
  have hblind : FrameBlind (va_Pc [.ref sb, .int 0] (fun U => U.heap = H ∧ va_X sb L xs U U.heap ∧ sb < U.heap.size)) := by
    intro a U g mk h
    obtain ⟨h0, h1, h2, h3⟩ := h
    exact ⟨h0, h1, va_X.moved (u := U) (U := U.calling g mk a) (Vm.Alike.refl U.vm) h2, h3⟩
  have hr1 := va_runS (As := [.ref sb, .int 0]) (rest := st) (g := F0 m pc ls (.int 0 :: .ref sb :: st)) (l := lx) (e := e) (below := below) (meth := meth) (H := H) (locs := locs) (cells := kc) (slots := ks) ⟨hx, hb, hml, hown, hts⟩ (c_L_cell lx sb L xs hL H) (va_cwS (R := room_1) (mc := 0) (ms := 0) (bytes := cL_cell) (maxL := 2) (ret := some .int) 2 hts (goodIn_mono wsL_law_in gL_law_L_cell) rfl rfl rfl hd_L_cell ⟨Nat.le_of_ble_eq_true rfl, Nat.le_of_ble_eq_true rfl⟩) ⟨hblind, fun U hU hW => ⟨rfl, hU, by rw [hU]; exact va_X.moved hW.alike (hX.kept (hS.2.1 sb hsb hsA)), by rw [hU]; exact Nat.lt_of_lt_of_le hsb hS.1⟩⟩ rfl rfl (hl.1.trans hml) rfl (lv_room hcat) hd ⟨hcells, hslots⟩
  intro T hT Xs
  obtain ⟨v1, st₀, t, T', Lc, h0', X', hLc, e1, e2, ⟨hv, hh⟩, stp⟩ := hr1 T hT Xs
  cases hv
  have hL0 : Lc = [] := by
    cases Lc with
    | nil => rfl
    | cons a r => exact (hLc a List.mem_cons_self).elim
  subst hL0
  have eH : T'.heap = H := by rw [e1, hh, h0']
  rw [List.append_nil] at X'
  obtain ⟨t2, a1, b1⟩ := kk H locs ls hP hD hS hl T' eH X'
  exact ⟨t2, stp t2 a1, b1⟩
/-- the law's own end -/
theorem hret_law {p : Program} {l : Launch} {e : Env} {s : State} {m : MethodId} {below : List Frame} {meth : Method} {c : Code} {sb : Nat} {b : Bw} (hx : p.tables.exec = Jvm.exec) (hb : c.code = code) (hr : meth.sig.returnType = ret) (hlk : meth.locks = false) (hge : ∀ k, k < nW → s.heap.size ≤ bad b k) : ∀ (S : St) (pc : Nat) (lv : List (Nat × Value)), decode cL_law pc = .ok (.ireturn, 1) → G (p, l, e, room_1, s, m, #[Value.ref sb], below, meth, c, b, 600000, 7302249) (lw_Z below #[Value.ref sb] s) S pc lv [.int 1] := by
  intro S pc lv hd H locs ls hP hS hl
  refine va_forget (fun q hq => ?_) (lw_ret hx hb hr hlk hd)
  rcases hS.2.2 q hq with ⟨k, hk, e⟩ | h
  · rw [e]; exact hge k hk
  · exact h
theorem inl_X11 : ∀ w ∈ wsX110, w ∈ lw_tbl := lc_wsX110
theorem inl_X12 : ∀ w ∈ wsX120, w ∈ lw_tbl := lc_wsX120
set_option maxRecDepth 100000 in
set_option maxHeartbeats 16000000 in
/-- both objects are made; then the loop -/
theorem law_made {X : MC} {A : Nat → Prop} {Q : State → Prop} {nm : String} (C : Cc X A cL_law RL lw_tbl 4 room_1 ret nm) {sb L : Nat} {xs : Nat → Int32} (hL : L < 2 ^ 31) (hc : ScrC X A sb L xs) (kk : ∀ q q2 : Nat → Nat, GC X A Q (cw_X11 (Xb X) q (cellv L xs 0).toInt64 ++ cw_X12 (Xb X) q2 (cellv L xs 0).toInt64) 67 12938 28 [(2, .ref (q2 0)), (1, .ref (q 0)), (0, .ref sb)] []) : GC X A Q [] 0 0 0 [(0, .ref sb)] [] := by
  refine gc_new (pc := 0) (kc := 0) (ks := 0) (ws := []) C inl_X11 tyX11 tyX11_ok (List.mem_append_right _ (List.mem_of_getElem? (i := 19) (by decide +kernel))) (List.mem_append_right _ (List.mem_of_getElem? (i := 20) (by decide +kernel))) (List.mem_append_right _ (List.mem_of_getElem? (i := 1) (by decide +kernel))) (ci := 10) rfl [.long 0, .null, .null, .null, .null, .null, .null, .null] (fun j hj => by rcases (show j = 0 ∨ j = 1 ∨ j = 2 ∨ j = 3 ∨ j = 4 ∨ j = 5 ∨ j = 6 ∨ j = 7 by omega) with rfl | rfl | rfl | rfl | rfl | rfl | rfl | rfl <;> rfl) (Nat.le_of_ble_eq_true rfl) (Nat.le_of_ble_eq_true rfl) dL_law_0 (fun o1 => ?_)
  refine gc_dup (pc := 3) C dL_law_3 rfl ?_
  refine gc_aload_n (pc := 4) C dL_law_4 rfl 0 rfl ?_
  refine gc_iconst (pc := 5) (v := 0) C dL_law_5 (by decide) ?_
  refine gc_cell (pc := 6) C hL hc (Nat.le_of_ble_eq_true rfl) (Nat.le_of_ble_eq_true rfl) (Nat.le_of_ble_eq_true rfl) dL_law_6 ?_
  refine gc_i2l (pc := 9) C dL_law_9 ?_
  refine gc_callI (pc := 10) (kc := 1) (ks := 8) (As := [.long (cellv L xs 0).toInt64]) (st := [.ref o1]) C (ci_X11 (Xl X) (Xb X) [] o1 (cellv L xs 0).toInt64) rfl (goodIn_mono wsL_law_in gL_law_X11_init) rfl rfl rfl (List.mem_append_right _ (List.mem_of_getElem? (i := 21) (by decide +kernel))) (List.mem_append_right _ (List.mem_of_getElem? (i := 1) (by decide +kernel))) rfl (List.mem_append_right _ (List.mem_of_getElem? (i := 22) (by decide +kernel))) hdi_X11 ⟨Nat.le_of_ble_eq_true rfl, Nat.le_of_ble_eq_true rfl⟩ rfl rfl (Nat.le_of_ble_eq_true rfl) (Nat.le_of_ble_eq_true rfl) (Nat.le_of_ble_eq_true rfl) dL_law_10 (fun q hq => ?_)
  subst hq
  change GC X A Q (cw_X11 (Xb X) q (cellv L xs 0).toInt64) 48 7313 13 [(0, .ref sb)] [.ref (q 0)]
  refine gc_astore_n (pc := 13) C [(1, .ref (q 0)), (0, .ref sb)] dL_law_13 rfl (Nat.le_of_ble_eq_true rfl) rfl ?_
  refine gc_new (pc := 14) (kc := 48) (ks := 7313) (ws := cw_X11 (Xb X) q (cellv L xs 0).toInt64) C inl_X12 tyX12 tyX12_ok (List.mem_append_right _ (List.mem_of_getElem? (i := 748) (by decide +kernel))) (List.mem_append_right _ (List.mem_of_getElem? (i := 749) (by decide +kernel))) (List.mem_append_right _ (List.mem_of_getElem? (i := 12) (by decide +kernel))) (ci := 11) rfl [.long 0, .int 0, .null, .null, .null, .null, .null, .int 0, .null, .null, .null, .int 0, .int 0, .int 0, .null, .null, .null, .int 0, .null, .null, .null, .null, .int 0, .null, .int 0, .int 0, .int 0, .long 0, .int 0, .null, .int 0, .null, .int 0, .int 0, .int 0] (fun j hj => by rcases (show j = 0 ∨ j = 1 ∨ j = 2 ∨ j = 3 ∨ j = 4 ∨ j = 5 ∨ j = 6 ∨ j = 7 ∨ j = 8 ∨ j = 9 ∨ j = 10 ∨ j = 11 ∨ j = 12 ∨ j = 13 ∨ j = 14 ∨ j = 15 ∨ j = 16 ∨ j = 17 ∨ j = 18 ∨ j = 19 ∨ j = 20 ∨ j = 21 ∨ j = 22 ∨ j = 23 ∨ j = 24 ∨ j = 25 ∨ j = 26 ∨ j = 27 ∨ j = 28 ∨ j = 29 ∨ j = 30 ∨ j = 31 ∨ j = 32 ∨ j = 33 ∨ j = 34 by omega) with rfl | rfl | rfl | rfl | rfl | rfl | rfl | rfl | rfl | rfl | rfl | rfl | rfl | rfl | rfl | rfl | rfl | rfl | rfl | rfl | rfl | rfl | rfl | rfl | rfl | rfl | rfl | rfl | rfl | rfl | rfl | rfl | rfl | rfl | rfl <;> rfl) (Nat.le_of_ble_eq_true rfl) (Nat.le_of_ble_eq_true rfl) dL_law_14 (fun o2 => ?_)
  refine gc_dup (pc := 17) C dL_law_17 rfl ?_
  refine gc_aload_n (pc := 18) C dL_law_18 rfl 1 rfl ?_
  refine gc_iconst (pc := 19) (v := 0) C dL_law_19 (by decide) ?_
  refine gc_cell (pc := 20) C hL hc (Nat.le_of_ble_eq_true rfl) (Nat.le_of_ble_eq_true rfl) (Nat.le_of_ble_eq_true rfl) dL_law_20 ?_
  refine gc_i2l (pc := 23) C dL_law_23 ?_
  refine gc_callI (pc := 24) (kc := 49) (ks := 7348) (As := [.long (cellv L xs 0).toInt64]) (st := [.ref o2]) C (ci_X12 (Xl X) (Xb X) (cw_X11 (Xb X) q (cellv L xs 0).toInt64) o2 (cellv L xs 0).toInt64) rfl (goodIn_mono wsL_law_in gL_law_X12_init) rfl rfl rfl (List.mem_append_right _ (List.mem_of_getElem? (i := 750) (by decide +kernel))) (List.mem_append_right _ (List.mem_of_getElem? (i := 12) (by decide +kernel))) rfl (List.mem_append_right _ (List.mem_of_getElem? (i := 751) (by decide +kernel))) hdi_X12 ⟨Nat.le_of_ble_eq_true rfl, Nat.le_of_ble_eq_true rfl⟩ rfl rfl (Nat.le_of_ble_eq_true rfl) (Nat.le_of_ble_eq_true rfl) (Nat.le_of_ble_eq_true rfl) dL_law_24 (fun q2 hq2 => ?_)
  subst hq2
  refine gc_astore_n (pc := 27) C [(2, .ref (q2 0)), (1, .ref (q 0)), (0, .ref sb)] dL_law_27 rfl (Nat.le_of_ble_eq_true rfl) rfl ?_
  exact kk q q2
theorem known_cls {args : Array Value} {s : State} (hts : ∀ w ∈ lw_tbl, w.before args s = true) : ∀ (k : Nat), ∃ r : ClassId × (Nat → Nat), ∀ q : vw_C, vwCl[k]? = some q → u_Kn s q.1 q.2.1 q.2.2 r.1 r.2 := by
  intro k
  match k with
  | 0 =>
    obtain ⟨c, i, h⟩ := u_known (C := RX0) (T := TX0) (N := 4) (n := 4) hts lc_wsX00 (hts _ (List.mem_append_right _ (List.mem_of_getElem? (i := 88) (by decide +kernel))))
    exact ⟨(c, i), fun q hq => by cases hq; exact h⟩
  | 1 =>
    obtain ⟨c, i, h⟩ := u_known (C := RX1) (T := TX1) (N := 3) (n := 3) hts lc_wsX10 (hts _ (List.mem_append_right _ (List.mem_of_getElem? (i := 197) (by decide +kernel))))
    exact ⟨(c, i), fun q hq => by cases hq; exact h⟩
  | 2 =>
    obtain ⟨c, i, h⟩ := u_known (C := RX2) (T := TX2) (N := 4) (n := 4) hts lc_wsX20 (hts _ (List.mem_append_right _ (List.mem_of_getElem? (i := 67) (by decide +kernel))))
    exact ⟨(c, i), fun q hq => by cases hq; exact h⟩
  | 3 =>
    obtain ⟨c, i, h⟩ := u_known (C := RX4) (T := TX4) (N := 6) (n := 6) hts lc_wsX40 (hts _ (List.mem_append_right _ (List.mem_of_getElem? (i := 34) (by decide +kernel))))
    exact ⟨(c, i), fun q hq => by cases hq; exact h⟩
  | 4 =>
    obtain ⟨c, i, h⟩ := u_known (C := RX5) (T := TX5) (N := 2) (n := 2) hts lc_wsX50 (hts _ (List.mem_append_right _ (List.mem_of_getElem? (i := 245) (by decide +kernel))))
    exact ⟨(c, i), fun q hq => by cases hq; exact h⟩
  | 5 =>
    obtain ⟨c, i, h⟩ := u_known (C := RX6) (T := TX6) (N := 8) (n := 8) hts lc_wsX60 (hts _ (List.mem_append_right _ (List.mem_of_getElem? (i := 191) (by decide +kernel))))
    exact ⟨(c, i), fun q hq => by cases hq; exact h⟩
  | 6 =>
    obtain ⟨c, i, h⟩ := u_known (C := RX7) (T := TX7) (N := 4) (n := 4) hts lc_wsX70 (hts _ (List.mem_append_right _ (List.mem_of_getElem? (i := 172) (by decide +kernel))))
    exact ⟨(c, i), fun q hq => by cases hq; exact h⟩
  | 7 =>
    obtain ⟨c, i, h⟩ := u_known (C := RX8) (T := TX8) (N := 4) (n := 4) hts lc_wsX80 (hts _ (List.mem_append_right _ (List.mem_of_getElem? (i := 145) (by decide +kernel))))
    exact ⟨(c, i), fun q hq => by cases hq; exact h⟩
  | 8 =>
    obtain ⟨c, i, h⟩ := u_known (C := RX9) (T := TX9) (N := 5) (n := 5) hts lc_wsX90 (hts _ (List.mem_append_right _ (List.mem_of_getElem? (i := 28) (by decide +kernel))))
    exact ⟨(c, i), fun q hq => by cases hq; exact h⟩
  | 9 =>
    obtain ⟨c, i, h⟩ := u_known (C := RX10) (T := TX10) (N := 2) (n := 2) hts lc_wsX100 (hts _ (List.mem_append_right _ (List.mem_of_getElem? (i := 129) (by decide +kernel))))
    exact ⟨(c, i), fun q hq => by cases hq; exact h⟩
  | 10 =>
    obtain ⟨c, i, h⟩ := u_known (C := RX11) (T := TX11) (N := 8) (n := 8) hts lc_wsX110 (hts _ (List.mem_append_right _ (List.mem_of_getElem? (i := 20) (by decide +kernel))))
    exact ⟨(c, i), fun q hq => by cases hq; exact h⟩
  | 11 =>
    obtain ⟨c, i, h⟩ := u_known (C := RX12) (T := TX12) (N := 35) (n := 35) hts lc_wsX120 (hts _ (List.mem_append_right _ (List.mem_of_getElem? (i := 749) (by decide +kernel))))
    exact ⟨(c, i), fun q hq => by cases hq; exact h⟩
  | n + 12 => exact ⟨(0, fun _ => 0), fun q hq => by simp [vwCl] at hq⟩
theorem arr_known {args : Array Value} {s : State} {ty : FieldType} (h : (Cond.arrayClass ty).before args s = true) (hp : ∀ C, ty ≠ .object C) : ∃ c : ClassId, ArrOfT s c ty ∧ va_RA s c ty := by
  obtain ⟨cA, kA, comp, hfc, hk, hkind⟩ := Cond.arrayClass_spec h
  refine ⟨cA, fun n z => ⟨(fun q hq => by cases hq), kA, hk, comp, hkind⟩, ?_⟩
  cases ty with
  | object C => exact absurd rfl (hp C)
  | _ => exact hfc
theorem over_known {args : Array Value} {s : State} {t : FieldType} (h : (Cond.arrayOver (.array t)).before args s = true) : ∃ c : ClassId, ArrOfT s c (.array t) ∧ va_RA s c (.array t) := by
  obtain ⟨comp, c, k, h1, h2, h3, h4, h5⟩ := arrayOverA_spec h
  exact ⟨c, fun n z => ⟨(fun q hq => by cases hq), k, h3, comp, h4⟩, h5⟩
set_option maxRecDepth 100000 in
set_option maxHeartbeats 16000000 in
theorem whole_start {p : Program} {e : Env} {s : State} {m : MethodId} {below : List Frame} {meth : Method} {c : Code} (l : Launch) (hflags : l.flags = flags0) {b L : Nat} {xs : Nat → Int32} (hL : L ≤ 3073) (C0 : lw_At p s m meth c b L xs) : W p l e room_1 s m #[Value.ref b] below meth c s.heap [] 0 0 (lw_Z below #[Value.ref b] s) (entryFrame m ([Value.ref b] : List Value).toArray 4) := by
  obtain ⟨hx, hb, hr, hml, hown, hts, hX, hbl, hlocks, hgv⟩ := id C0
  obtain ⟨DD, hDD⟩ := Classical.axiomOfChoice (known_cls hts)
  obtain ⟨cB, hB⟩ := arr_known (hts (.arrayClass .byte) (List.mem_append_right _ (List.mem_of_getElem? (i := 143) (by decide +kernel)))) (fun C h => by cases h)
  obtain ⟨cI, hI⟩ := arr_known (hts (.arrayClass .int) (List.mem_append_right _ (List.mem_of_getElem? (i := 65) (by decide +kernel)))) (fun C h => by cases h)
  obtain ⟨cJ, hJ⟩ := arr_known (hts (.arrayClass .long) (List.mem_append_right _ (List.mem_of_getElem? (i := 257) (by decide +kernel)))) (fun C h => by cases h)
  obtain ⟨cZ, hZ⟩ := arr_known (hts (.arrayClass .boolean) (List.mem_append_right _ (List.mem_of_getElem? (i := 86) (by decide +kernel)))) (fun C h => by cases h)
  have hov := hts (.arrayOver (.array .int)) (List.mem_append_right _ (List.mem_of_getElem? (i := 151) (by decide +kernel)))
  obtain ⟨cG, hG⟩ := over_known hov
  have hA0 : ∀ a : Nat, a < s.heap.size → ¬ (fun q : Nat => s.heap.size ≤ q) a := fun a h q => Nat.not_le.mpr h q
  obtain ⟨K, V, T, hKVT⟩ := env_start hts hgv hA0
  obtain ⟨dD, hdD⟩ : ∃ dD : va_G, dD = ((fun k => (DD k).1), (fun k => (DD k).2)) := ⟨_, rfl⟩
  obtain ⟨cy, hcy⟩ : ∃ cy : Nat → ClassId, cy = (fun k => match k with | 0 => cB | 1 => cI | 2 => cJ | 3 => cZ | _ => cG) := ⟨_, rfl⟩
  have hKb : ∀ ad : Nat → Nat, va_K (bD (dD, ad, cy, K, V, T)) vwCl (btys (dD, ad, cy, K, V, T)) s := by
    intro ad
    subst hdD; subst hcy
    refine ⟨fun k q hq => hDD k q hq, fun k q hq => ?_⟩
    match k, hq with
    | 0, hq => cases hq; exact hB
    | 1, hq => cases hq; exact hI
    | 2, hq => cases hq; exact hJ
    | 3, hq => cases hq; exact hZ
    | 4, hq => cases hq; exact hG
    | k + 5, hq => simp [btys] at hq
  have hl := lv_entry ([.ref b]) (n := 4) (Nat.le_of_ble_eq_true rfl)
  rw [lg_entry_eq]
  have CC : Cc (p, l, e, room_1, s, m, #[Value.ref b], below, meth, c, (dD, (fun _ => 0), cy, K, V, T), 0, 0) (fun q => s.heap.size ≤ q) cL_law RL lw_tbl 4 room_1 ret meth.name := ⟨hx, hb, hml, hown, hts, hr, hlocks, rfl, hKb _, fun q h => h, fun w hw => va_Nw.of (nest_tab (nest_all w hw)) (hts w (nestWs_in w hw)), hov, rfl⟩
  have key := law_made (Q := lw_Z below #[Value.ref b] s) (sb := b) (L := L) (xs := xs) CC (by omega) ⟨hX, hbl, fun h => Nat.not_le.mpr hbl h⟩ (fun q q2 => ?_)
  · exact key s.heap [] _ (fun k q h => by simp at h) ⟨fun i j p q h => by simp at h, fun k q h => by simp at h⟩ va_S.rf (by rw [hml]; exact hl)
  · intro H locs ls hP hD hS hl
    refine W.widen (k := 600000) (n := 7302249) (Nat.le_of_ble_eq_true rfl) (Nat.le_of_ble_eq_true rfl) ?_
    obtain ⟨bb, hbb⟩ : ∃ bb : Bw, bb = (dD, (fun k => (adL q q2).getD k 0), cy, K, V, T) := ⟨_, rfl⟩
    have hP1 : va_P (bD bb) vwCl (world bb (S0 (cellv L xs 0).toInt64)) H := by
      subst hbb
      exact va_P.sub (ws := cw_X11 (dD, (fun k => (adL q q2).getD k 0), cy, K, V, T) q (cellv L xs 0).toInt64 ++ cw_X12 (dD, (fun k => (adL q q2).getD k 0), cy, K, V, T) q2 (cellv L xs 0).toInt64) hP permL (world_made dD cy K V T q q2 (cellv L xs 0).toInt64)
    have hD1 : va_D (fun q : Nat => s.heap.size ≤ q) (world bb (S0 (cellv L xs 0).toInt64)) := by
      subst hbb
      exact va_D.sub (ws := cw_X11 (dD, (fun k => (adL q q2).getD k 0), cy, K, V, T) q (cellv L xs 0).toInt64 ++ cw_X12 (dD, (fun k => (adL q q2).getD k 0), cy, K, V, T) q2 (cellv L xs 0).toInt64) hD permL (by decide) (world_made2 dD cy K V T q q2 (cellv L xs 0).toInt64)
    have hge : ∀ k, k < nW → s.heap.size ≤ bad bb k := fun k hk => by
      obtain ⟨e1, h1⟩ := world_get bb (S0 (cellv L xs 0).toInt64) k hk
      exact hD1.2 k _ h1
    have hok : adOK bb := fun i j hi hj h => by
      obtain ⟨e1, h1⟩ := world_get bb (S0 (cellv L xs 0).toInt64) i hi
      obtain ⟨e2, h2⟩ := world_get bb (S0 (cellv L xs 0).toInt64) j hj
      exact hD1.1 i j _ _ h1 h2 h
    have hsubA : ∀ q, AW bb s.heap.size q → s.heap.size ≤ q := fun q h => by
      rcases h with ⟨k, hk, e⟩ | h
      · rw [e]; exact hge k hk
      · exact h
    have hE : EnvP bb (AW bb s.heap.size) s s.heap := (hKVT bb (by subst hbb; rfl) (by subst hbb; rfl) (by subst hbb; rfl)).narrow hsubA
    have hS1 : va_S (AW bb s.heap.size) s.heap H locs := ⟨hS.1, fun q h1 h2 => hS.2.1 q h1 (fun z => Nat.not_le.mpr h1 z), fun q hq => Or.inr (hS.2.2 q hq)⟩
    have CX : Cx (p, l, e, room_1, s, m, #[Value.ref b], below, meth, c, bb, 600000, 7302249) cL_law RL lw_tbl 4 room_1 ret := ⟨hx, hb, hml, hown, hts, hr, hlocks, rfl, by subst hbb; exact hKb _, hok, hE, Nat.le_refl _, Nat.le_refl _⟩
    have hc : Scr (p, l, e, room_1, s, m, #[Value.ref b], below, meth, c, bb, 600000, 7302249) b L xs := ⟨hX, hbl, fun h => Nat.not_le.mpr hbl (hsubA b h)⟩
    obtain ⟨r0, hr0, hr1⟩ := law_pure L xs hL (cellv L xs 0).toInt64
    have hG := s_L_law_b28 CX hc (hret_law hx hb hr hlocks hge) _ hr0 hr1
    refine hG H locs ls hP1 hS1 ?_
    have e0 : bad bb 0 = q 0 := by subst hbb; rfl
    have e12 : bad bb 12 = q2 0 := by subst hbb; rfl
    show lv_has ls c.maxLocals [(0, .ref b), (1, .ref (bad bb 0)), (2, .ref (bad bb 12))]
    rw [e0, e12]
    exact lv_sub hl [2, 1, 0] rfl
