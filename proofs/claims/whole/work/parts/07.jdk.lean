/-! the texts' own members: rows, walks, contracts -/
def sCh (i : Nat) (k : Int32) : Int32 := ((bytS.getD i []).getD k.toNatClampNeg 0) &&& 255
def f_J0_length_8abf5 (i : Nat) (S : St) : Option (Int32 × St) := chk (ltN i 16) (some (nI (lenS.getD i 0), S))
def f_J0_charAt_5068e (i : Nat) (k : Int32) (S : St) : Option (Int32 × St) := chk (ltN i 16) (chk (inb k (lenS.getD i 0)) (some (sCh i k, S)))
section JROWS
variable {X : MC} {Q : State → Prop} {S : St} {pc : Nat} {lv : List (Nat × Value)} {st : List Value} {cc : ByteArray} {own : String} {Ts : List Cond} {nL : Nat} {rm : Room} {ret : Option FieldType} {α : Type} {r0 : α} {i index : Nat}
theorem g_strv (C : Cx X cc own Ts nL rm ret) (hi : i < 16) (hlink : Cond.fieldLink own index "java/lang/String" "value" "[B" ∈ Ts) (hd : decode cc pc = .ok (.getfield index, 3)) (kk : G X Q S (pc + 3) lv (.ref (bV (Xb X) i) :: st)) : G X Q S pc lv (.ref (bK (Xb X) i) :: st) := by
  obtain ⟨p, l, e, R, s, m, args, below, meth, c, b, kc, ks⟩ := X
  obtain ⟨hx, hb, hml, hown, hts, hr, hlk, rfl, hK, hA, hE, hkc, hks⟩ := C
  intro H locs ls hP hS hl
  exact vk_getf hx hb (hE.2.1.1 i hi).2.2.1 hS hown (hts _ hlink) (fun _ q => q) hd (kk H locs ls hP hS hl)
theorem g_strc (C : Cx X cc own Ts nL rm ret) (hi : i < 16) (hlink : Cond.fieldLink own index "java/lang/String" "coder" "B" ∈ Ts) (hd : decode cc pc = .ok (.getfield index, 3)) (kk : G X Q S (pc + 3) lv (.int 0 :: st)) : G X Q S pc lv (.ref (bK (Xb X) i) :: st) := by
  obtain ⟨p, l, e, R, s, m, args, below, meth, c, b, kc, ks⟩ := X
  obtain ⟨hx, hb, hml, hown, hts, hr, hlk, rfl, hK, hA, hE, hkc, hks⟩ := C
  intro H locs ls hP hS hl
  exact vk_getf hx hb (hE.2.1.1 i hi).2.1 hS hown (hts _ hlink) (fun _ q => q) hd (kk H locs ls hP hS hl)
theorem g_strl (C : Cx X cc own Ts nL rm ret) (hi : i < 16) (hd : decode cc pc = .ok (.arraylength, 1)) (kk : G X Q S (pc + 1) lv (.int (nI (lenS.getD i 0)) :: st)) : G X Q S pc lv (.ref (bV (Xb X) i) :: st) := by
  obtain ⟨p, l, e, R, s, m, args, below, meth, c, b, kc, ks⟩ := X
  obtain ⟨hx, hb, hml, hown, hts, hr, hlk, rfl, hK, hA, hE, hkc, hks⟩ := C
  intro H locs ls hP hS hl
  exact va_tlen hx hb (hE.2.1.1 i hi).2.2.2 hS rfl hd (kk H locs ls hP hS hl)
theorem g_strb (C : Cx X cc own Ts nL rm ret) (hi : i < 16) {k : Int32} (hk : inb k (lenS.getD i 0) = true) (hd : decode cc pc = .ok (.baload, 1)) (kk : G X Q S (pc + 1) lv (.int ((bytS.getD i []).getD k.toNatClampNeg 0) :: st)) : G X Q S pc lv (.int k :: .ref (bV (Xb X) i) :: st) := by
  obtain ⟨p, l, e, R, s, m, args, below, meth, c, b, kc, ks⟩ := X
  obtain ⟨hx, hb, hml, hown, hts, hr, hlk, rfl, hK, hA, hE, hkc, hks⟩ := C
  intro H locs ls hP hS hl
  exact va_tb hx hb (hE.2.1.1 i hi).2.2.2 hS (inb_in hk) rfl hd (kk H locs ls hP hS hl)
theorem g_compact (C : Cx X cc own Ts nL rm ret) (hlink : Cond.fieldLink own index "java/lang/String" "COMPACT_STRINGS" "Z" ∈ Ts) (hd : decode cc pc = .ok (.getstatic index, 3)) (kk : G X Q S (pc + 3) lv (.int 1 :: st)) : G X Q S pc lv st := by
  obtain ⟨p, l, e, R, s, m, args, below, meth, c, b, kc, ks⟩ := X
  obtain ⟨hx, hb, hml, hown, hts, hr, hlk, rfl, hK, hA, hE, hkc, hks⟩ := C
  intro H locs ls hP hS hl
  exact va_gets hx hb hE.2.2.2.1 hS hown (hts _ hlink) (fun _ q => q) hd (kk H locs ls hP hS hl)
theorem g_siob (C : Cx X cc own Ts nL rm ret) (hlink : Cond.fieldLink own index "jdk/internal/util/Preconditions" "SIOOBE_FORMATTER" "Ljava/util/function/BiFunction;" ∈ Ts) (hd : decode cc pc = .ok (.getstatic index, 3)) (kk : ∀ v : Value, v.category = 1 → G X Q S (pc + 3) lv (v :: st)) : G X Q S pc lv st := by
  obtain ⟨p, l, e, R, s, m, args, below, meth, c, b, kc, ks⟩ := X
  obtain ⟨hx, hb, hml, hown, hts, hr, hlk, rfl, hK, hA, hE, hkc, hks⟩ := C
  intro H locs ls hP hS hl
  rcases hE.2.2.2.2.1 with h | ⟨t, h⟩
  · exact va_gets hx hb h hS hown (hts _ hlink) (fun _ q => q) hd (kk .null rfl H locs ls hP hS hl)
  · exact va_gets hx hb h hS hown (hts _ hlink) (fun _ q => q) hd (kk (.ref t) rfl H locs ls hP hS hl)
theorem g_ishr (C : Cx X cc own Ts nL rm ret) {x y : Int32} (hd : decode cc pc = .ok (.ishr, 1)) (kk : G X Q S (pc + 1) lv (.int (x >>> (y &&& 31)) :: st)) : G X Q S pc lv (.int y :: .int x :: st) := by
  obtain ⟨p, l, e, R, s, m, args, below, meth, c, b, kc, ks⟩ := X
  obtain ⟨hx, hb, hml, hown, hts, hr, hlk, rfl, hK, hA, hE, hkc, hks⟩ := C
  intro H locs ls hP hS hl
  exact lv_ishr hx hb hd (kk H locs ls hP hS hl)
theorem g_i2c (C : Cx X cc own Ts nL rm ret) {x : Int32} (hd : decode cc pc = .ok (.i2c, 1)) (kk : G X Q S (pc + 1) lv (.int (x.toUInt32 % 65536).toInt32 :: st)) : G X Q S pc lv (.int x :: st) := by
  obtain ⟨p, l, e, R, s, m, args, below, meth, c, b, kc, ks⟩ := X
  obtain ⟨hx, hb, hml, hown, hts, hr, hlk, rfl, hK, hA, hE, hkc, hks⟩ := C
  intro H locs ls hP hS hl
  exact lv_i2c hx hb hd rfl (kk H locs ls hP hS hl)
theorem g_nret {ty : FieldType} (C : Cx X cc own Ts nL rm (some ty)) {v : Int32} {r : Int32 × St} (hn : narrow ty (.int v) = .int v) (h : some (v, S) = some r) (hd : decode cc pc = .ok (.ireturn, 1)) : G X (QM mkI X r) S pc lv [.int v] := by
  obtain ⟨p, l, e, R, s, m, args, below, meth, c, b, kc, ks⟩ := X
  obtain ⟨hx, hb, hml, hown, hts, hr, hlk, rfl, hK, hA, hE, hkc, hks⟩ := C
  intro H locs ls hP hS hl
  cases h
  exact W.zret hx hb hr hn (fun t ht hW => ⟨rfl, by rw [ht]; exact hP, hS.F ht⟩) hS.2.2 hd hlk
theorem g_aloadv (C : Cx X cc own Ts nL rm ret) {v : Value} (hv : v.category = 1) {j : Nat} {k : Fin 4} (hd : decode cc pc = .ok (.aload_n k, 1)) (kk : G X Q S (pc + 1) lv (v :: st)) : True := trivial
end JROWS
theorem hdj_J3 : yJ3_checkIndex_8e157.cls ≠ "java/lang/invoke/MethodHandle" ∧ yJ3_checkIndex_8e157.cls ≠ "java/lang/invoke/VarHandle" ∧ (parseMethodDescriptor yJ3_checkIndex_8e157.desc).map (fun d => d.parameters.length) = some 3 := by decide +kernel
theorem hdj_J0 : yJ0_checkIndex_df160.cls ≠ "java/lang/invoke/MethodHandle" ∧ yJ0_checkIndex_df160.cls ≠ "java/lang/invoke/VarHandle" ∧ (parseMethodDescriptor yJ0_checkIndex_df160.desc).map (fun d => d.parameters.length) = some 2 := by decide +kernel
theorem hdj_J1 : yJ1_charAt_3b067.cls ≠ "java/lang/invoke/MethodHandle" ∧ yJ1_charAt_3b067.cls ≠ "java/lang/invoke/VarHandle" ∧ (parseMethodDescriptor yJ1_charAt_3b067.desc).map (fun d => d.parameters.length) = some 2 := by decide +kernel
def rmJ0_coder_7d493 : Room := { frames := 0, cells := 0, slots := 0, locals := 0 }
def rmJ0_isLatin1_aae02 : Room := { frames := 0, cells := 0, slots := 0, locals := 0 }
def rmJ3_checkIndex_8e157 : Room := { frames := 0, cells := 0, slots := 0, locals := 0 }
def rmJ0_checkIndex_df160 : Room := { frames := 1, cells := 0, slots := 0, locals := 22 }
def rmJ1_charAt_3b067 : Room := { frames := 2, cells := 0, slots := 0, locals := 43 }
set_option maxRecDepth 100000 in
set_option maxHeartbeats 4000000 in
theorem c_J0_coder_7d493 (l : Launch) (b : Bw) (i : Nat) (hi : i < 16) (S : St) : Ct l b yJ0_coder_7d493 wsJ0_coder_7d493 rmJ0_coder_7d493 [.ref (bK b i)] S mkI (some (0, S)) := Ct.of (by decide +kernel) rfl (Nat.le_of_ble_eq_true rfl) (fun X C hl hb r h => by
  subst hl; subst hb
  change G X _ S 0 [(0, .ref (bK (Xb X) i))] []
  refine g_compact (pc := 0) C (List.mem_of_getElem? (i := 1) rfl) dJ0_coder_7d493_0 ?_
  refine g_if_eq (r0 := r) (pc := 3) (tgt := 13) (A := none) (B := some ((0 : Int32), S)) C (by rw [if_neg (by decide)]; exact h) dJ0_coder_7d493_3 (by decide) (fun h => by cases h) (fun h => ?_)
  refine g_aload_n (pc := 6) C dJ0_coder_7d493_6 rfl 0 rfl ?_
  refine g_strc (pc := 7) C hi (List.mem_of_getElem? (i := 2) rfl) dJ0_coder_7d493_7 ?_
  refine g_goto (pc := 10) (tgt := 14) C dJ0_coder_7d493_10 (by decide) ?_
  exact g_nret (pc := 14) C rfl h dJ0_coder_7d493_14)
set_option maxRecDepth 100000 in
set_option maxHeartbeats 4000000 in
theorem c_J0_isLatin1_aae02 (l : Launch) (b : Bw) (i : Nat) (hi : i < 16) (S : St) : Ct l b yJ0_isLatin1_aae02 wsJ0_isLatin1_aae02 rmJ0_isLatin1_aae02 [.ref (bK b i)] S mkI (some (1, S)) := Ct.of (by decide +kernel) rfl (Nat.le_of_ble_eq_true rfl) (fun X C hl hb r h => by
  subst hl; subst hb
  change G X _ S 0 [(0, .ref (bK (Xb X) i))] []
  refine g_compact (pc := 0) C (List.mem_of_getElem? (i := 1) rfl) dJ0_isLatin1_aae02_0 ?_
  refine g_if_eq (r0 := r) (pc := 3) (tgt := 17) (A := none) (B := some ((1 : Int32), S)) C (by rw [if_neg (by decide)]; exact h) dJ0_isLatin1_aae02_3 (by decide) (fun h => by cases h) (fun h => ?_)
  refine g_aload_n (pc := 6) C dJ0_isLatin1_aae02_6 rfl 0 rfl ?_
  refine g_strc (pc := 7) C hi (List.mem_of_getElem? (i := 2) rfl) dJ0_isLatin1_aae02_7 ?_
  refine g_if_ne (r0 := r) (pc := 10) (tgt := 17) (A := none) (B := some ((1 : Int32), S)) C (by rw [if_pos rfl]; exact h) dJ0_isLatin1_aae02_10 (by decide) (fun h => by cases h) (fun h => ?_)
  refine g_iconst (pc := 13) (v := 1) C dJ0_isLatin1_aae02_13 (by decide) ?_
  refine g_goto (pc := 14) (tgt := 18) C dJ0_isLatin1_aae02_14 (by decide) ?_
  exact g_zretc (pc := 18) C rfl h dJ0_isLatin1_aae02_18)
set_option maxRecDepth 100000 in
set_option maxHeartbeats 4000000 in
theorem c_J3_checkIndex_8e157 (l : Launch) (b : Bw) (k n : Int32) (v : Value) (hv : v.category = 1) (hk : ¬ k < 0) (hn : k < n) (S : St) : Ct l b yJ3_checkIndex_8e157 wsJ3_checkIndex_8e157 rmJ3_checkIndex_8e157 [.int k, .int n, v] S mkI (some (k, S)) := Ct.of (by decide +kernel) rfl (by cases v <;> first | exact Nat.le_of_ble_eq_true rfl | cases hv) (fun X C hl hb r h => by
  subst hl; subst hb
  have e : lv_args 0 [.int k, .int n, v] = [(0, .int k), (1, .int n), (2, v)] := by cases v <;> first | rfl | cases hv
  rw [e]
  refine g_iload_n (pc := 0) C dJ3_checkIndex_8e157_0 rfl 0 rfl ?_
  refine g_if_lt (r0 := r) (pc := 1) (tgt := 9) (A := none) (B := some (k, S)) C (by rw [if_neg hk]; exact h) dJ3_checkIndex_8e157_1 (by decide) (fun h => by cases h) (fun h => ?_)
  refine g_iload_n (pc := 4) C dJ3_checkIndex_8e157_4 rfl 0 rfl ?_
  refine g_iload_n (pc := 5) C dJ3_checkIndex_8e157_5 rfl 1 rfl ?_
  refine g_icmp_lt (r0 := r) (pc := 6) (tgt := 16) (A := some (k, S)) (B := none) C (by rw [if_pos hn]; exact h) dJ3_checkIndex_8e157_6 (by decide) (fun h => ?_) (fun h => by cases h)
  refine g_iload_n (pc := 16) C dJ3_checkIndex_8e157_16 rfl 0 rfl ?_
  exact g_iret (pc := 17) C h dJ3_checkIndex_8e157_17)
set_option maxRecDepth 100000 in
set_option maxHeartbeats 4000000 in
theorem c_J0_checkIndex_df160 (l : Launch) (b : Bw) (k n : Int32) (hk : ¬ k < 0) (hn : k < n) (S : St) : Ct l b yJ0_checkIndex_df160 wsJ0_checkIndex_df160 rmJ0_checkIndex_df160 [.int k, .int n] S mkV (some ((), S)) := Ct.of (by decide +kernel) rfl (Nat.le_of_ble_eq_true rfl) (fun X C hl hb r h => by
  subst hl; subst hb
  change G X _ S 0 [(0, .int k), (1, .int n)] []
  refine g_iload_n (pc := 0) C dJ0_checkIndex_df160_0 rfl 0 rfl ?_
  refine g_iload_n (pc := 1) C dJ0_checkIndex_df160_1 rfl 1 rfl ?_
  refine g_siob (pc := 2) C (List.mem_of_getElem? (i := 1) rfl) dJ0_checkIndex_df160_2 (fun v hv => ?_)
  refine g_callS (pc := 5) (f := fun _ S1 => some ((), S1)) (st := []) C (c_J3_checkIndex_8e157 (Xl X) (Xb X) k n v hv hk hn S) gJ0_checkIndex_df160_J3_checkIndex_8e157 rfl rfl rfl hdj_J3 ⟨Nat.le_of_ble_eq_true rfl, Nat.le_of_ble_eq_true rfl⟩ rfl rfl (Nat.le_of_ble_eq_true rfl) dJ0_checkIndex_df160_5 h (fun a S1 h => ?_)
  change G X _ S1 8 [(0, .int k), (1, .int n)] [.int a]
  refine g_pop (pc := 8) C dJ0_checkIndex_df160_8 rfl ?_
  exact g_vret (pc := 9) C h dJ0_checkIndex_df160_9)
theorem inb_lt {k : Int32} {n : Nat} (hn : n < 2 ^ 31) (h : inb k n = true) : ¬ k < 0 ∧ k < nI n := by
  obtain ⟨j, hj, rfl⟩ := vp_in_of (inb_in h) hn
  exact ⟨nI_pos (by omega), nI_lt hj hn⟩
theorem lenS_small (i : Nat) (hi : i < 16) : lenS.getD i 0 < 2 ^ 31 := by
  have h : ∀ i, i < 16 → lenS.getD i 0 < 2 ^ 31 := by decide +kernel
  exact h i hi
set_option maxRecDepth 100000 in
set_option maxHeartbeats 4000000 in
theorem c_J1_charAt_3b067 (l : Launch) (b : Bw) (i : Nat) (hi : i < 16) (k : Int32) (hk : inb k (lenS.getD i 0) = true) (S : St) : Ct l b yJ1_charAt_3b067 wsJ1_charAt_3b067 rmJ1_charAt_3b067 [.ref (bV b i), .int k] S mkI (some (sCh i k, S)) := Ct.of (by decide +kernel) rfl (Nat.le_of_ble_eq_true rfl) (fun X C hl hb r h => by
  subst hl; subst hb
  obtain ⟨h0, h1⟩ := inb_lt (lenS_small i hi) hk
  change G X _ S 0 [(0, .ref (bV (Xb X) i)), (1, .int k)] []
  refine g_iload_n (pc := 0) C dJ1_charAt_3b067_0 rfl 1 rfl ?_
  refine g_aload_n (pc := 1) C dJ1_charAt_3b067_1 rfl 0 rfl ?_
  refine g_strl (pc := 2) C hi dJ1_charAt_3b067_2 ?_
  refine g_callS (pc := 3) (f := fun _ S1 => some (sCh i k, S1)) (st := []) C (c_J0_checkIndex_df160 (Xl X) (Xb X) k (nI (lenS.getD i 0)) h0 h1 S) gJ1_charAt_3b067_J0_checkIndex_df160 rfl rfl rfl hdj_J0 ⟨Nat.le_of_ble_eq_true rfl, Nat.le_of_ble_eq_true rfl⟩ rfl rfl (Nat.le_of_ble_eq_true rfl) dJ1_charAt_3b067_3 h (fun a S1 h => ?_)
  change G X _ S1 6 [(0, .ref (bV (Xb X) i)), (1, .int k)] []
  refine g_aload_n (pc := 6) C dJ1_charAt_3b067_6 rfl 0 rfl ?_
  refine g_iload_n (pc := 7) C dJ1_charAt_3b067_7 rfl 1 rfl ?_
  refine g_strb (pc := 8) C hi hk dJ1_charAt_3b067_8 ?_
  refine g_sipush (pc := 9) (v := 255) C dJ1_charAt_3b067_9 (by decide) ?_
  refine g_iand (pc := 12) C dJ1_charAt_3b067_12 ?_
  refine g_i2c (pc := 13) C dJ1_charAt_3b067_13 ?_
  rw [sc_c2]
  exact g_nret (pc := 14) C (sc_nar _) h dJ1_charAt_3b067_14)
set_option maxRecDepth 100000 in
set_option maxHeartbeats 4000000 in
theorem c_J0_length_8abf5 (l : Launch) (b : Bw) (i : Nat) (S : St) : Ct l b yJ0_length_8abf5 wsJ0_length_8abf5 rmJ0_length_8abf5 [.ref (bK b i)] S mkI (f_J0_length_8abf5 i S) := Ct.of (by decide +kernel) rfl (Nat.le_of_ble_eq_true rfl) (fun X C hl hb r h => by
  subst hl; subst hb
  obtain ⟨hi, h⟩ := chk_some h
  have hi : i < 16 := of_decide_eq_true hi
  change G X _ S 0 [(0, .ref (bK (Xb X) i))] []
  refine g_aload_n (pc := 0) C dJ0_length_8abf5_0 rfl 0 rfl ?_
  refine g_strv (pc := 1) C hi (List.mem_of_getElem? (i := 1) rfl) dJ0_length_8abf5_1 ?_
  refine g_strl (pc := 4) C hi dJ0_length_8abf5_4 ?_
  refine g_aload_n (pc := 5) C dJ0_length_8abf5_5 rfl 0 rfl ?_
  refine g_callT (pc := 6) (f := fun r S1 => some (nI (lenS.getD i 0) >>> (r &&& 31), S1)) (st := [.int (nI (lenS.getD i 0))]) C i hi (c_J0_coder_7d493 (Xl X) (Xb X) i hi S) gJ0_length_8abf5_J0_coder_7d493 rfl rfl rfl (by decide +kernel) ⟨Nat.le_of_ble_eq_true rfl, Nat.le_of_ble_eq_true rfl⟩ rfl rfl (Nat.le_of_ble_eq_true rfl) dJ0_length_8abf5_6 (show some (nI (lenS.getD i 0) >>> ((0 : Int32) &&& 31), S) = some r by rw [sc_shr0 (lenS_small i hi)]; exact h) (fun a S1 h => ?_)
  change G X _ S1 9 [(0, .ref (bK (Xb X) i))] [.int a, .int (nI (lenS.getD i 0))]
  refine g_ishr (pc := 9) C dJ0_length_8abf5_9 ?_
  exact g_iret (pc := 10) C h dJ0_length_8abf5_10)
set_option maxRecDepth 100000 in
set_option maxHeartbeats 4000000 in
theorem c_J0_charAt_5068e (l : Launch) (b : Bw) (i : Nat) (k : Int32) (S : St) : Ct l b yJ0_charAt_5068e wsJ0_charAt_5068e rmJ0_charAt_5068e [.ref (bK b i), .int k] S mkI (f_J0_charAt_5068e i k S) := Ct.of (by decide +kernel) rfl (Nat.le_of_ble_eq_true rfl) (fun X C hl hb r h => by
  subst hl; subst hb
  obtain ⟨hi, h⟩ := chk_some h
  obtain ⟨hk, h⟩ := chk_some h
  have hi : i < 16 := of_decide_eq_true hi
  change G X _ S 0 [(0, .ref (bK (Xb X) i)), (1, .int k)] []
  refine g_aload_n (pc := 0) C dJ0_charAt_5068e_0 rfl 0 rfl ?_
  refine g_callT (pc := 1) (f := fun r S1 => if r = 0 then none else some (sCh i k, S1)) (st := []) C i hi (c_J0_isLatin1_aae02 (Xl X) (Xb X) i hi S) gJ0_charAt_5068e_J0_isLatin1_aae02 rfl rfl rfl (by decide +kernel) ⟨Nat.le_of_ble_eq_true rfl, Nat.le_of_ble_eq_true rfl⟩ rfl rfl (Nat.le_of_ble_eq_true rfl) dJ0_charAt_5068e_1 (show (if (1 : Int32) = 0 then none else some (sCh i k, S)) = some r by rw [if_neg (by decide)]; exact h) (fun a S1 h => ?_)
  change G X _ S1 4 [(0, .ref (bK (Xb X) i)), (1, .int k)] [.int a]
  refine g_if_eq (pc := 4) (tgt := 16) C h dJ0_charAt_5068e_4 (by decide) (fun h => by cases h) (fun h => ?_)
  refine g_aload_n (pc := 7) C dJ0_charAt_5068e_7 rfl 0 rfl ?_
  refine g_strv (pc := 8) C hi (List.mem_of_getElem? (i := 1) rfl) dJ0_charAt_5068e_8 ?_
  refine g_iload_n (pc := 11) C dJ0_charAt_5068e_11 rfl 1 rfl ?_
  refine g_callS (pc := 12) (f := fun a S1 => chk (decide (a &&& 255 = a)) (some (a, S1))) (st := []) C (c_J1_charAt_3b067 (Xl X) (Xb X) i hi k hk S1) gJ0_charAt_5068e_J1_charAt_3b067 rfl rfl rfl hdj_J1 ⟨Nat.le_of_ble_eq_true rfl, Nat.le_of_ble_eq_true rfl⟩ rfl rfl (Nat.le_of_ble_eq_true rfl) dJ0_charAt_5068e_12 (show chk (decide (sCh i k &&& 255 = sCh i k)) (some (sCh i k, S1)) = some r by
    have e : sCh i k &&& 255 = sCh i k := by
      unfold sCh
      rw [Int32.and_assoc]; rfl
    rw [decide_eq_true e]; exact h) (fun a S2 h => ?_)
  change G X _ S2 15 [(0, .ref (bK (Xb X) i)), (1, .int k)] [.int a]
  obtain ⟨h8, h⟩ := chk_some h
  have h8 : a &&& 255 = a := of_decide_eq_true h8
  exact g_nret (pc := 15) C (by rw [← h8]; exact sc_nar a) h dJ0_charAt_5068e_15)
