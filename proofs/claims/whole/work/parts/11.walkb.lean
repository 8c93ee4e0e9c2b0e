/-! StyleRows$Performer.addLean(LStyleRows$Rules;)V -/
set_option maxRecDepth 100000 in
set_option maxHeartbeats 4000000 in
theorem s_X6_addLean_b48 {X : MC} (C : Cx X cX6_addLean RX6 wsX6_addLean 3 rmX6_addLean none) (S : St) {r0 : Unit × St} (h : f_X6_addLean_b48 S = some r0) : G X (QM mkV X r0) S 48 [] [] := by
  unfold f_X6_addLean_b48 at h
  exact g_vret (pc := 48) C h dX6_addLean_48
set_option maxRecDepth 100000 in
set_option maxHeartbeats 4000000 in
theorem s_X6_addLean_b0 {X : MC} (C : Cx X cX6_addLean RX6 wsX6_addLean 3 rmX6_addLean none) (S : St) {r0 : Unit × St} (h : f_X6_addLean_b0 S = some r0) : G X (QM mkV X r0) S 0 [(0, .ref (ad X 8)), (1, .ref (ad X 6))] [] := by
  unfold f_X6_addLean_b0 at h
  refine g_aload_n (pc := 0) C dX6_addLean_0 rfl 1 rfl ?_
  refine g_aload_n (pc := 1) C dX6_addLean_1 rfl 0 rfl ?_
  refine g_get (pc := 2) C 8 (w_8 _ _) rfl 2 (Nat.le_of_ble_eq_true rfl) in_X6_X6_addLean k77_X6_addLean rfl dX6_addLean_2 ?_
  refine g_bipush (pc := 5) (v := 10) C dX6_addLean_5 (by decide) ?_
  refine g_callV (pc := 7) C 6 (c_X8_numberFor (Xl X) (Xb X) (gI S 13) 10 S) gX6_addLean_X8_numberFor rfl rfl rfl hd_X8_numberFor ⟨Nat.le_of_ble_eq_true rfl, Nat.le_of_ble_eq_true rfl⟩ (w_6 _ _) rfl rfl rfl (Nat.le_of_ble_eq_true rfl) dX6_addLean_7 h (fun r2 S1 h => ?_)
  change G X _ S1 10 [(0, .ref (ad X 8)), (1, .ref (ad X 6))] [.int r2]
  refine g_aload_n (pc := 10) C dX6_addLean_10 rfl 0 rfl ?_
  refine g_get (pc := 11) C 8 (w_8 _ _) rfl 7 (Nat.le_of_ble_eq_true rfl) in_X6_X6_addLean k47_X6_addLean rfl dX6_addLean_11 ?_
  refine g_iconst (pc := 14) (v := 2) C dX6_addLean_14 (by decide) ?_
  refine g_idiv (pc := 15) C h dX6_addLean_15 (fun h => ?_)
  refine g_mmin (pc := 16) C k103_X6_addLean kstmin_X6_addLean kini_X6_addLean kcomin_X6_addLean (Nat.le_of_ble_eq_true rfl) (Nat.le_of_ble_eq_true rfl) dX6_addLean_16 ?_
  refine g_leti h (fun x3 h => ?_)
  refine g_istore_n (pc := 19) C [(2, .int x3), (0, .ref (ad X 8)), (1, .ref (ad X 6))] dX6_addLean_19 rfl (Nat.le_of_ble_eq_true rfl) rfl ?_
  refine g_iload_n (pc := 20) C dX6_addLean_20 rfl 0 rfl ?_
  refine g_if_le (pc := 21) (tgt := 48) C h dX6_addLean_21 (by decide) (fun h => ?_) (fun h => ?_)
  · refine g_weak (lv1 := []) [] rfl ?_
    exact s_X6_addLean_b48 C   S1 h
  · refine g_aload_n (pc := 24) C dX6_addLean_24 rfl 1 rfl ?_
    refine g_iconst (pc := 25) (v := 1) C dX6_addLean_25 (by decide) ?_
    refine g_aload_n (pc := 26) C dX6_addLean_26 rfl 1 rfl ?_
    refine g_get (pc := 27) C 8 (w_8 _ _) rfl 3 (Nat.le_of_ble_eq_true rfl) in_X6_X6_addLean k83_X6_addLean rfl dX6_addLean_27 ?_
    refine g_iconst (pc := 30) (v := 2) C dX6_addLean_30 (by decide) ?_
    refine g_iadd (pc := 31) C dX6_addLean_31 ?_
    refine g_iconst (pc := 32) (v := 1) C dX6_addLean_32 (by decide) ?_
    refine g_aload_n (pc := 33) C dX6_addLean_33 rfl 1 rfl ?_
    refine g_get (pc := 34) C 8 (w_8 _ _) rfl 5 (Nat.le_of_ble_eq_true rfl) in_X6_X6_addLean k57_X6_addLean rfl dX6_addLean_34 ?_
    refine g_iconst (pc := 37) (v := 3) C dX6_addLean_37 (by decide) ?_
    refine g_imul (pc := 38) C dX6_addLean_38 ?_
    refine g_iconst (pc := 39) (v := 4) C dX6_addLean_39 (by decide) ?_
    refine g_idiv (pc := 40) C h dX6_addLean_40 (fun h => ?_)
    refine g_mmax (pc := 41) C k108_X6_addLean kstmax_X6_addLean kini_X6_addLean kcomax_X6_addLean (Nat.le_of_ble_eq_true rfl) (Nat.le_of_ble_eq_true rfl) dX6_addLean_41 ?_
    refine g_iload_n (pc := 44) C dX6_addLean_44 rfl 0 rfl ?_
    refine g_callV (pc := 45) C 8 (c_X6_addPart (Xl X) (Xb X) 1 ((gI S1 14) + 2) (imax 1 (((gI S1 16) * 3) / 4)) x3 S1) gX6_addLean_X6_addPart rfl rfl rfl hd_X6_addPart ⟨Nat.le_of_ble_eq_true rfl, Nat.le_of_ble_eq_true rfl⟩ (w_8 _ _) rfl rfl rfl (Nat.le_of_ble_eq_true rfl) dX6_addLean_45 h (fun _u4 S4 h => ?_)
    change G X _ S4 48 [(2, .int x3), (0, .ref (ad X 8)), (1, .ref (ad X 6))] []
    refine g_weak (lv1 := []) [] rfl ?_
    exact s_X6_addLean_b48 C   S4 h
theorem c_X6_addLean (l : Launch) (b : Bw) (S : St) : Ct l b yX6_addLean wsX6_addLean rmX6_addLean [.ref (bad b 8), .ref (bad b 6)] S mkV (f_X6_addLean S) := Ct.of (by decide +kernel) rfl (Nat.le_of_ble_eq_true rfl) (fun X C hl hb r h => by
  subst hl; subst hb
  exact s_X6_addLean_b0 C S h)
/-! StyleRows$Notes.isInChord(II)Z -/
set_option maxRecDepth 100000 in
set_option maxHeartbeats 4000000 in
theorem s_X4_isInChord_b57 {X : MC} (C : Cx X cX4_isInChord RX4 wsX4_isInChord 4 rmX4_isInChord (some .boolean)) (w0 : Int32) (S : St) {r0 : Int32 × St} (h : f_X4_isInChord_b57 w0 S = some r0) : G X (QM mkI X r0) S 57 [] [.int w0] := by
  unfold f_X4_isInChord_b57 at h
  exact g_zret (pc := 57) C h dX4_isInChord_57
set_option maxRecDepth 100000 in
set_option maxHeartbeats 4000000 in
theorem s_X4_isInChord_b56 {X : MC} (C : Cx X cX4_isInChord RX4 wsX4_isInChord 4 rmX4_isInChord (some .boolean)) (S : St) {r0 : Int32 × St} (h : f_X4_isInChord_b56 S = some r0) : G X (QM mkI X r0) S 56 [] [] := by
  unfold f_X4_isInChord_b56 at h
  refine g_iconst (pc := 56) (v := 0) C dX4_isInChord_56 (by decide) ?_
  refine g_weak (lv1 := []) [] rfl ?_
  exact s_X4_isInChord_b57 C 0  S h
set_option maxRecDepth 100000 in
set_option maxHeartbeats 4000000 in
theorem s_X4_isInChord_b17 {X : MC} (C : Cx X cX4_isInChord RX4 wsX4_isInChord 4 rmX4_isInChord (some .boolean)) (v1 : Int32) (v2 : Int32) (w0 : Int32) (S : St) {r0 : Int32 × St} (h : f_X4_isInChord_b17 v1 v2 w0 S = some r0) : G X (QM mkI X r0) S 17 [(0, .ref (ad X 2)), (1, .int v1), (2, .int v2)] [.int w0] := by
  unfold f_X4_isInChord_b17 at h
  refine g_istore_n (pc := 17) C [(3, .int w0), (0, .ref (ad X 2)), (1, .int v1), (2, .int v2)] dX4_isInChord_17 rfl (Nat.le_of_ble_eq_true rfl) rfl ?_
  refine g_iload_n (pc := 18) C dX4_isInChord_18 rfl 0 rfl ?_
  refine g_if_eq (pc := 19) (tgt := 56) C h dX4_isInChord_19 (by decide) (fun h => ?_) (fun h => ?_)
  · refine g_weak (lv1 := []) [] rfl ?_
    exact s_X4_isInChord_b56 C   S h
  · refine g_aload_n (pc := 22) C dX4_isInChord_22 rfl 1 rfl ?_
    refine g_get (pc := 23) C 2 (w_2 _ _) rfl 0 (Nat.le_of_ble_eq_true rfl) in_X4_X4_isInChord k11_X4_isInChord rfl dX4_isInChord_23 ?_
    refine g_iload_n (pc := 26) C dX4_isInChord_26 rfl 2 rfl ?_
    refine g_iald (pc := 27) C 13 (w_13 _ _) h dX4_isInChord_27 (fun h => ?_)
    refine g_aload_n (pc := 28) C dX4_isInChord_28 rfl 1 rfl ?_
    refine g_get (pc := 29) C 2 (w_2 _ _) rfl 0 (Nat.le_of_ble_eq_true rfl) in_X4_X4_isInChord k11_X4_isInChord rfl dX4_isInChord_29 ?_
    refine g_iload_n (pc := 32) C dX4_isInChord_32 rfl 3 rfl ?_
    refine g_iald (pc := 33) C 13 (w_13 _ _) h dX4_isInChord_33 (fun h => ?_)
    refine g_icmp_ne (pc := 34) (tgt := 56) C h dX4_isInChord_34 (by decide) (fun h => ?_) (fun h => ?_)
    · refine g_weak (lv1 := []) [] rfl ?_
      exact s_X4_isInChord_b56 C   S h
    · refine g_aload_n (pc := 37) C dX4_isInChord_37 rfl 1 rfl ?_
      refine g_get (pc := 38) C 2 (w_2 _ _) rfl 1 (Nat.le_of_ble_eq_true rfl) in_X4_X4_isInChord k15_X4_isInChord rfl dX4_isInChord_38 ?_
      refine g_iload_n (pc := 41) C dX4_isInChord_41 rfl 2 rfl ?_
      refine g_iald (pc := 42) C 14 (w_14 _ _) h dX4_isInChord_42 (fun h => ?_)
      refine g_aload_n (pc := 43) C dX4_isInChord_43 rfl 1 rfl ?_
      refine g_get (pc := 44) C 2 (w_2 _ _) rfl 1 (Nat.le_of_ble_eq_true rfl) in_X4_X4_isInChord k15_X4_isInChord rfl dX4_isInChord_44 ?_
      refine g_iload_n (pc := 47) C dX4_isInChord_47 rfl 3 rfl ?_
      refine g_iald (pc := 48) C 14 (w_14 _ _) h dX4_isInChord_48 (fun h => ?_)
      refine g_icmp_ne (pc := 49) (tgt := 56) C h dX4_isInChord_49 (by decide) (fun h => ?_) (fun h => ?_)
      · refine g_weak (lv1 := []) [] rfl ?_
        exact s_X4_isInChord_b56 C   S h
      · refine g_iconst (pc := 52) (v := 1) C dX4_isInChord_52 (by decide) ?_
        refine g_goto (pc := 53) (tgt := 57) C dX4_isInChord_53 (by decide) ?_
        refine g_weak (lv1 := []) [] rfl ?_
        exact s_X4_isInChord_b57 C 1  S h
set_option maxRecDepth 100000 in
set_option maxHeartbeats 4000000 in
theorem s_X4_isInChord_b0 {X : MC} (C : Cx X cX4_isInChord RX4 wsX4_isInChord 4 rmX4_isInChord (some .boolean)) (a1 : Int32) (a2 : Int32) (S : St) {r0 : Int32 × St} (h : f_X4_isInChord_b0 a1 a2 S = some r0) : G X (QM mkI X r0) S 0 [(0, .ref (ad X 2)), (1, .int a1), (2, .int a2)] [] := by
  unfold f_X4_isInChord_b0 at h
  refine g_aload_n (pc := 0) C dX4_isInChord_0 rfl 0 rfl ?_
  refine g_get (pc := 1) C 2 (w_2 _ _) rfl 4 (Nat.le_of_ble_eq_true rfl) in_X4_X4_isInChord k24_X4_isInChord rfl dX4_isInChord_1 ?_
  refine g_iload_n (pc := 4) C dX4_isInChord_4 rfl 1 rfl ?_
  refine g_iald (pc := 5) C 17 (w_17 _ _) h dX4_isInChord_5 (fun h => ?_)
  refine g_bipush (pc := 6) (v := 64) C dX4_isInChord_6 (by decide) ?_
  refine g_iand (pc := 8) C dX4_isInChord_8 ?_
  refine g_if_eq (pc := 9) (tgt := 16) C h dX4_isInChord_9 (by decide) (fun h => ?_) (fun h => ?_)
  · refine g_iconst (pc := 16) (v := 0) C dX4_isInChord_16 (by decide) ?_
    refine g_weak (lv1 := [(0, .ref (ad X 2)), (1, .int a1), (2, .int a2)]) [0, 1, 2] rfl ?_
    exact s_X4_isInChord_b17 C a1 a2 0  S h
  · refine g_iconst (pc := 12) (v := 1) C dX4_isInChord_12 (by decide) ?_
    refine g_goto (pc := 13) (tgt := 17) C dX4_isInChord_13 (by decide) ?_
    refine g_weak (lv1 := [(0, .ref (ad X 2)), (1, .int a1), (2, .int a2)]) [0, 1, 2] rfl ?_
    exact s_X4_isInChord_b17 C a1 a2 1  S h
theorem c_X4_isInChord (l : Launch) (b : Bw) (a1 : Int32) (a2 : Int32) (S : St) : Ct l b yX4_isInChord wsX4_isInChord rmX4_isInChord [.ref (bad b 2), .int a1, .int a2] S mkI (f_X4_isInChord a1 a2 S) := Ct.of (by decide +kernel) rfl (Nat.le_of_ble_eq_true rfl) (fun X C hl hb r h => by
  subst hl; subst hb
  exact s_X4_isInChord_b0 C a1 a2 S h)
/-! StyleRows$Notes.isLower(II)Z -/
set_option maxRecDepth 100000 in
set_option maxHeartbeats 4000000 in
theorem s_X4_isLower_b40 {X : MC} (C : Cx X cX4_isLower RX4 wsX4_isLower 3 rmX4_isLower (some .boolean)) (w0 : Int32) (S : St) {r0 : Int32 × St} (h : f_X4_isLower_b40 w0 S = some r0) : G X (QM mkI X r0) S 40 [] [.int w0] := by
  unfold f_X4_isLower_b40 at h
  exact g_zret (pc := 40) C h dX4_isLower_40
set_option maxRecDepth 100000 in
set_option maxHeartbeats 4000000 in
theorem s_X4_isLower_b35 {X : MC} (C : Cx X cX4_isLower RX4 wsX4_isLower 3 rmX4_isLower (some .boolean)) (S : St) {r0 : Int32 × St} (h : f_X4_isLower_b35 S = some r0) : G X (QM mkI X r0) S 35 [] [] := by
  unfold f_X4_isLower_b35 at h
  refine g_iconst (pc := 35) (v := 1) C dX4_isLower_35 (by decide) ?_
  refine g_goto (pc := 36) (tgt := 40) C dX4_isLower_36 (by decide) ?_
  refine g_weak (lv1 := []) [] rfl ?_
  exact s_X4_isLower_b40 C 1  S h
set_option maxRecDepth 100000 in
set_option maxHeartbeats 4000000 in
theorem s_X4_isLower_b39 {X : MC} (C : Cx X cX4_isLower RX4 wsX4_isLower 3 rmX4_isLower (some .boolean)) (S : St) {r0 : Int32 × St} (h : f_X4_isLower_b39 S = some r0) : G X (QM mkI X r0) S 39 [] [] := by
  unfold f_X4_isLower_b39 at h
  refine g_iconst (pc := 39) (v := 0) C dX4_isLower_39 (by decide) ?_
  refine g_weak (lv1 := []) [] rfl ?_
  exact s_X4_isLower_b40 C 0  S h
set_option maxRecDepth 100000 in
set_option maxHeartbeats 4000000 in
theorem s_X4_isLower_b0 {X : MC} (C : Cx X cX4_isLower RX4 wsX4_isLower 3 rmX4_isLower (some .boolean)) (a1 : Int32) (a2 : Int32) (S : St) {r0 : Int32 × St} (h : f_X4_isLower_b0 a1 a2 S = some r0) : G X (QM mkI X r0) S 0 [(0, .ref (ad X 2)), (1, .int a1), (2, .int a2)] [] := by
  unfold f_X4_isLower_b0 at h
  refine g_aload_n (pc := 0) C dX4_isLower_0 rfl 0 rfl ?_
  refine g_get (pc := 1) C 2 (w_2 _ _) rfl 3 (Nat.le_of_ble_eq_true rfl) in_X4_X4_isLower k21_X4_isLower rfl dX4_isLower_1 ?_
  refine g_iload_n (pc := 4) C dX4_isLower_4 rfl 1 rfl ?_
  refine g_iald (pc := 5) C 16 (w_16 _ _) h dX4_isLower_5 (fun h => ?_)
  refine g_aload_n (pc := 6) C dX4_isLower_6 rfl 0 rfl ?_
  refine g_get (pc := 7) C 2 (w_2 _ _) rfl 3 (Nat.le_of_ble_eq_true rfl) in_X4_X4_isLower k21_X4_isLower rfl dX4_isLower_7 ?_
  refine g_iload_n (pc := 10) C dX4_isLower_10 rfl 2 rfl ?_
  refine g_iald (pc := 11) C 16 (w_16 _ _) h dX4_isLower_11 (fun h => ?_)
  refine g_icmp_lt (pc := 12) (tgt := 35) C h dX4_isLower_12 (by decide) (fun h => ?_) (fun h => ?_)
  · refine g_weak (lv1 := []) [] rfl ?_
    exact s_X4_isLower_b35 C   S h
  · refine g_aload_n (pc := 15) C dX4_isLower_15 rfl 0 rfl ?_
    refine g_get (pc := 16) C 2 (w_2 _ _) rfl 3 (Nat.le_of_ble_eq_true rfl) in_X4_X4_isLower k21_X4_isLower rfl dX4_isLower_16 ?_
    refine g_iload_n (pc := 19) C dX4_isLower_19 rfl 1 rfl ?_
    refine g_iald (pc := 20) C 16 (w_16 _ _) h dX4_isLower_20 (fun h => ?_)
    refine g_aload_n (pc := 21) C dX4_isLower_21 rfl 0 rfl ?_
    refine g_get (pc := 22) C 2 (w_2 _ _) rfl 3 (Nat.le_of_ble_eq_true rfl) in_X4_X4_isLower k21_X4_isLower rfl dX4_isLower_22 ?_
    refine g_iload_n (pc := 25) C dX4_isLower_25 rfl 2 rfl ?_
    refine g_iald (pc := 26) C 16 (w_16 _ _) h dX4_isLower_26 (fun h => ?_)
    refine g_icmp_ne (pc := 27) (tgt := 39) C h dX4_isLower_27 (by decide) (fun h => ?_) (fun h => ?_)
    · refine g_weak (lv1 := []) [] rfl ?_
      exact s_X4_isLower_b39 C   S h
    · refine g_iload_n (pc := 30) C dX4_isLower_30 rfl 1 rfl ?_
      refine g_iload_n (pc := 31) C dX4_isLower_31 rfl 2 rfl ?_
      refine g_icmp_ge (pc := 32) (tgt := 39) C h dX4_isLower_32 (by decide) (fun h => ?_) (fun h => ?_)
      · refine g_weak (lv1 := []) [] rfl ?_
        exact s_X4_isLower_b39 C   S h
      · refine g_weak (lv1 := []) [] rfl ?_
        exact s_X4_isLower_b35 C   S h
theorem c_X4_isLower (l : Launch) (b : Bw) (a1 : Int32) (a2 : Int32) (S : St) : Ct l b yX4_isLower wsX4_isLower rmX4_isLower [.ref (bad b 2), .int a1, .int a2] S mkI (f_X4_isLower a1 a2 S) := Ct.of (by decide +kernel) rfl (Nat.le_of_ble_eq_true rfl) (fun X C hl hb r h => by
  subst hl; subst hb
  exact s_X4_isLower_b0 C a1 a2 S h)
/-! StyleRows$Notes.rolledAhead(I)I -/
set_option maxRecDepth 100000 in
set_option maxHeartbeats 4000000 in
theorem s_X4_rolledAhead_b33 {X : MC} (C : Cx X cX4_rolledAhead RX4 wsX4_rolledAhead 4 rmX4_rolledAhead (some .int)) {rec4 : Int32 × Int32 × St → Option (Int32 × St)} (v1 : Int32) (v2 : Int32) (v3 : Int32) (hrec4 : ∀ (s : Int32 × Int32 × St) (r : Int32 × St), rec4 s = some r → G X (QM mkI X r) s.2.2 4 [(0, .ref (ad X 2)), (1, .int v1), (2, .int (s.1)), (3, .int (s.2.1))] []) (S : St) {r0 : Int32 × St} (h : f_X4_rolledAhead_b33 rec4 v1 v2 v3 S = some r0) : G X (QM mkI X r0) S 33 [(0, .ref (ad X 2)), (1, .int v1), (2, .int v2), (3, .int v3)] [] := by
  unfold f_X4_rolledAhead_b33 at h
  refine g_iinc (pc := 33) (v := v3 + 1) C [(3, .int (v3 + 1)), (0, .ref (ad X 2)), (1, .int v1), (2, .int v2)] dX4_rolledAhead_33 3 rfl rfl (Nat.le_of_ble_eq_true rfl) rfl ?_
  refine g_goto (pc := 36) (tgt := 4) C dX4_rolledAhead_36 (by decide) ?_
  refine g_weak (lv1 := [(0, .ref (ad X 2)), (1, .int v1), (2, .int v2), (3, .int (v3 + 1))]) [1, 2, 3, 0] rfl ?_
  exact hrec4 (v2, v3 + 1, S) _ h
set_option maxRecDepth 100000 in
set_option maxHeartbeats 4000000 in
theorem s_X4_rolledAhead_b4 {X : MC} (C : Cx X cX4_rolledAhead RX4 wsX4_rolledAhead 4 rmX4_rolledAhead (some .int)) {rec4 : Int32 × Int32 × St → Option (Int32 × St)} (v1 : Int32) (v2 : Int32) (v3 : Int32) (hrec4 : ∀ (s : Int32 × Int32 × St) (r : Int32 × St), rec4 s = some r → G X (QM mkI X r) s.2.2 4 [(0, .ref (ad X 2)), (1, .int v1), (2, .int (s.1)), (3, .int (s.2.1))] []) (S : St) {r0 : Int32 × St} (h : f_X4_rolledAhead_b4 rec4 v1 v2 v3 S = some r0) : G X (QM mkI X r0) S 4 [(0, .ref (ad X 2)), (1, .int v1), (2, .int v2), (3, .int v3)] [] := by
  unfold f_X4_rolledAhead_b4 at h
  refine g_iload_n (pc := 4) C dX4_rolledAhead_4 rfl 3 rfl ?_
  refine g_aload_n (pc := 5) C dX4_rolledAhead_5 rfl 0 rfl ?_
  refine g_get (pc := 6) C 2 (w_2 _ _) rfl 5 (Nat.le_of_ble_eq_true rfl) in_X4_X4_rolledAhead k27_X4_rolledAhead rfl dX4_rolledAhead_6 ?_
  refine g_icmp_ge (pc := 9) (tgt := 39) C h dX4_rolledAhead_9 (by decide) (fun h => ?_) (fun h => ?_)
  · refine g_iload_n (pc := 39) C dX4_rolledAhead_39 rfl 2 rfl ?_
    exact g_iret (pc := 40) C h dX4_rolledAhead_40
  · refine g_aload_n (pc := 12) C dX4_rolledAhead_12 rfl 0 rfl ?_
    refine g_iload_n (pc := 13) C dX4_rolledAhead_13 rfl 3 rfl ?_
    refine g_iload_n (pc := 14) C dX4_rolledAhead_14 rfl 1 rfl ?_
    refine g_callV (pc := 15) C 2 (c_X4_isInChord (Xl X) (Xb X) v3 v1 S) gX4_rolledAhead_X4_isInChord rfl rfl rfl hd_X4_isInChord ⟨Nat.le_of_ble_eq_true rfl, Nat.le_of_ble_eq_true rfl⟩ (w_2 _ _) rfl rfl rfl (Nat.le_of_ble_eq_true rfl) dX4_rolledAhead_15 h (fun r2 S1 h => ?_)
    change G X _ S1 18 [(0, .ref (ad X 2)), (1, .int v1), (2, .int v2), (3, .int v3)] [.int r2]
    refine g_if_eq (pc := 18) (tgt := 33) C h dX4_rolledAhead_18 (by decide) (fun h => ?_) (fun h => ?_)
    · refine g_weak (lv1 := [(0, .ref (ad X 2)), (1, .int v1), (2, .int v2), (3, .int v3)]) [0, 1, 2, 3] rfl ?_
      exact s_X4_rolledAhead_b33 C v1 v2 v3 hrec4  S1 h
    · refine g_aload_n (pc := 21) C dX4_rolledAhead_21 rfl 0 rfl ?_
      refine g_iload_n (pc := 22) C dX4_rolledAhead_22 rfl 3 rfl ?_
      refine g_iload_n (pc := 23) C dX4_rolledAhead_23 rfl 1 rfl ?_
      refine g_callV (pc := 24) C 2 (c_X4_isLower (Xl X) (Xb X) v3 v1 S1) gX4_rolledAhead_X4_isLower rfl rfl rfl hd_X4_isLower ⟨Nat.le_of_ble_eq_true rfl, Nat.le_of_ble_eq_true rfl⟩ (w_2 _ _) rfl rfl rfl (Nat.le_of_ble_eq_true rfl) dX4_rolledAhead_24 h (fun r4 S3 h => ?_)
      change G X _ S3 27 [(0, .ref (ad X 2)), (1, .int v1), (2, .int v2), (3, .int v3)] [.int r4]
      refine g_if_eq (pc := 27) (tgt := 33) C h dX4_rolledAhead_27 (by decide) (fun h => ?_) (fun h => ?_)
      · refine g_weak (lv1 := [(0, .ref (ad X 2)), (1, .int v1), (2, .int v2), (3, .int v3)]) [0, 1, 2, 3] rfl ?_
        exact s_X4_rolledAhead_b33 C v1 v2 v3 hrec4  S3 h
      · refine g_iinc (pc := 30) (v := v2 + 1) C [(2, .int (v2 + 1)), (0, .ref (ad X 2)), (1, .int v1), (3, .int v3)] dX4_rolledAhead_30 2 rfl rfl (Nat.le_of_ble_eq_true rfl) rfl ?_
        refine g_weak (lv1 := [(0, .ref (ad X 2)), (1, .int v1), (2, .int (v2 + 1)), (3, .int v3)]) [1, 2, 0, 3] rfl ?_
        exact s_X4_rolledAhead_b33 C v1 (v2 + 1) v3 hrec4  S3 h
set_option maxRecDepth 100000 in
set_option maxHeartbeats 4000000 in
theorem s_X4_rolledAhead_l4 {X : MC} (C : Cx X cX4_rolledAhead RX4 wsX4_rolledAhead 4 rmX4_rolledAhead (some .int)) (v1 : Int32) : ∀ (n : Nat) (s : Int32 × Int32 × St) (r : Int32 × St), f_X4_rolledAhead_l4 v1 n s = some r → G X (QM mkI X r) s.2.2 4 [(0, .ref (ad X 2)), (1, .int v1), (2, .int (s.1)), (3, .int (s.2.1))] [] :=
  loop_sound (fun rec4 hrec4 s r h => s_X4_rolledAhead_b4 C v1 s.1 s.2.1 hrec4 s.2.2 h)
set_option maxRecDepth 100000 in
set_option maxHeartbeats 4000000 in
theorem s_X4_rolledAhead_b0 {X : MC} (C : Cx X cX4_rolledAhead RX4 wsX4_rolledAhead 4 rmX4_rolledAhead (some .int)) (a1 : Int32) (S : St) {r0 : Int32 × St} (h : f_X4_rolledAhead_b0 a1 S = some r0) : G X (QM mkI X r0) S 0 [(0, .ref (ad X 2)), (1, .int a1)] [] := by
  unfold f_X4_rolledAhead_b0 at h
  refine g_iconst (pc := 0) (v := 0) C dX4_rolledAhead_0 (by decide) ?_
  refine g_istore_n (pc := 1) C [(2, .int 0), (0, .ref (ad X 2)), (1, .int a1)] dX4_rolledAhead_1 rfl (Nat.le_of_ble_eq_true rfl) rfl ?_
  refine g_iconst (pc := 2) (v := 0) C dX4_rolledAhead_2 (by decide) ?_
  refine g_istore_n (pc := 3) C [(3, .int 0), (2, .int 0), (0, .ref (ad X 2)), (1, .int a1)] dX4_rolledAhead_3 rfl (Nat.le_of_ble_eq_true rfl) rfl ?_
  refine g_weak (lv1 := [(0, .ref (ad X 2)), (1, .int a1), (2, .int 0), (3, .int 0)]) [2, 3, 1, 0] rfl ?_
  exact s_X4_rolledAhead_l4 C a1 _ (0, 0, S) _ h
theorem c_X4_rolledAhead (l : Launch) (b : Bw) (a1 : Int32) (S : St) : Ct l b yX4_rolledAhead wsX4_rolledAhead rmX4_rolledAhead [.ref (bad b 2), .int a1] S mkI (f_X4_rolledAhead a1 S) := Ct.of (by decide +kernel) rfl (Nat.le_of_ble_eq_true rfl) (fun X C hl hb r h => by
  subst hl; subst hb
  exact s_X4_rolledAhead_b0 C a1 S h)
/-! StyleRows$Performer.roll(LStyleRows$Notes;LStyleRows$Rules;)V -/
set_option maxRecDepth 100000 in
set_option maxHeartbeats 4000000 in
theorem s_X6_roll_b0 {X : MC} (C : Cx X cX6_roll RX6 wsX6_roll 4 rmX6_roll none) (S : St) {r0 : Unit × St} (h : f_X6_roll_b0 S = some r0) : G X (QM mkV X r0) S 0 [(0, .ref (ad X 8)), (1, .ref (ad X 2)), (2, .ref (ad X 6))] [] := by
  unfold f_X6_roll_b0 at h
  refine g_aload_n (pc := 0) C dX6_roll_0 rfl 1 rfl ?_
  refine g_aload_n (pc := 1) C dX6_roll_1 rfl 0 rfl ?_
  refine g_get (pc := 2) C 8 (w_8 _ _) rfl 1 (Nat.le_of_ble_eq_true rfl) in_X6_X6_roll k71_X6_roll rfl dX6_roll_2 ?_
  refine g_callV (pc := 5) C 2 (c_X4_rolledAhead (Xl X) (Xb X) (gI S 12) S) gX6_roll_X4_rolledAhead rfl rfl rfl hd_X4_rolledAhead ⟨Nat.le_of_ble_eq_true rfl, Nat.le_of_ble_eq_true rfl⟩ (w_2 _ _) rfl rfl rfl (Nat.le_of_ble_eq_true rfl) dX6_roll_5 h (fun r2 S1 h => ?_)
  change G X _ S1 8 [(0, .ref (ad X 8)), (1, .ref (ad X 2)), (2, .ref (ad X 6))] [.int r2]
  refine g_aload_n (pc := 8) C dX6_roll_8 rfl 2 rfl ?_
  refine g_aload_n (pc := 9) C dX6_roll_9 rfl 0 rfl ?_
  refine g_get (pc := 10) C 8 (w_8 _ _) rfl 2 (Nat.le_of_ble_eq_true rfl) in_X6_X6_roll k77_X6_roll rfl dX6_roll_10 ?_
  refine g_bipush (pc := 13) (v := 11) C dX6_roll_13 (by decide) ?_
  refine g_callV (pc := 15) C 6 (c_X8_numberFor (Xl X) (Xb X) (gI S1 13) 11 S1) gX6_roll_X8_numberFor rfl rfl rfl hd_X8_numberFor ⟨Nat.le_of_ble_eq_true rfl, Nat.le_of_ble_eq_true rfl⟩ (w_6 _ _) rfl rfl rfl (Nat.le_of_ble_eq_true rfl) dX6_roll_15 h (fun r4 S3 h => ?_)
  change G X _ S3 18 [(0, .ref (ad X 8)), (1, .ref (ad X 2)), (2, .ref (ad X 6))] [.int r4, .int r2]
  refine g_imul (pc := 18) C dX6_roll_18 ?_
  refine g_aload_n (pc := 19) C dX6_roll_19 rfl 0 rfl ?_
  refine g_get (pc := 20) C 8 (w_8 _ _) rfl 7 (Nat.le_of_ble_eq_true rfl) in_X6_X6_roll k47_X6_roll rfl dX6_roll_20 ?_
  refine g_iconst (pc := 23) (v := 1) C dX6_roll_23 (by decide) ?_
  refine g_isub (pc := 24) C dX6_roll_24 ?_
  refine g_mmin (pc := 25) C k103_X6_roll kstmin_X6_roll kini_X6_roll kcomin_X6_roll (Nat.le_of_ble_eq_true rfl) (Nat.le_of_ble_eq_true rfl) dX6_roll_25 ?_
  refine g_leti h (fun x5 h => ?_)
  refine g_istore_n (pc := 28) C [(3, .int x5), (0, .ref (ad X 8)), (1, .ref (ad X 2)), (2, .ref (ad X 6))] dX6_roll_28 rfl (Nat.le_of_ble_eq_true rfl) rfl ?_
  refine g_aload_n (pc := 29) C dX6_roll_29 rfl 1 rfl ?_
  refine g_dup (pc := 30) C dX6_roll_30 rfl ?_
  refine g_get (pc := 31) C 8 (w_8 _ _) rfl 6 (Nat.le_of_ble_eq_true rfl) in_X6_X6_roll k64_X6_roll rfl dX6_roll_31 ?_
  refine g_iload_n (pc := 34) C dX6_roll_34 rfl 0 rfl ?_
  refine g_iadd (pc := 35) C dX6_roll_35 ?_
  refine g_put (pc := 36) C 8 (w_8 _ _) rfl 6 (Nat.le_of_ble_eq_true rfl) in_X6_X6_roll tyX6_ok nmX6 k64_X6_roll rfl rfl rfl (Nat.le_of_ble_eq_true rfl) (ws_8_6 _ _ _) dX6_roll_36 h (fun S6 h => ?_)
  refine g_aload_n (pc := 39) C dX6_roll_39 rfl 1 rfl ?_
  refine g_dup (pc := 40) C dX6_roll_40 rfl ?_
  refine g_get (pc := 41) C 8 (w_8 _ _) rfl 7 (Nat.le_of_ble_eq_true rfl) in_X6_X6_roll k47_X6_roll rfl dX6_roll_41 ?_
  refine g_iload_n (pc := 44) C dX6_roll_44 rfl 0 rfl ?_
  refine g_isub (pc := 45) C dX6_roll_45 ?_
  refine g_put (pc := 46) C 8 (w_8 _ _) rfl 7 (Nat.le_of_ble_eq_true rfl) in_X6_X6_roll tyX6_ok nmX6 k47_X6_roll rfl rfl rfl (Nat.le_of_ble_eq_true rfl) (ws_8_7 _ _ _) dX6_roll_46 h (fun S7 h => ?_)
  exact g_vret (pc := 49) C h dX6_roll_49
theorem c_X6_roll (l : Launch) (b : Bw) (S : St) : Ct l b yX6_roll wsX6_roll rmX6_roll [.ref (bad b 8), .ref (bad b 2), .ref (bad b 6)] S mkV (f_X6_roll S) := Ct.of (by decide +kernel) rfl (Nat.le_of_ble_eq_true rfl) (fun X C hl hb r h => by
  subst hl; subst hb
  exact s_X6_roll_b0 C S h)
/-! StyleRows$Performer.addParts(LStyleRows$Notes;LStyleRows$Rules;)V -/
set_option maxRecDepth 100000 in
set_option maxHeartbeats 4000000 in
theorem s_X6_addParts_b65 {X : MC} (C : Cx X cX6_addParts RX6 wsX6_addParts 3 rmX6_addParts none) (S : St) {r0 : Unit × St} (h : f_X6_addParts_b65 S = some r0) : G X (QM mkV X r0) S 65 [(0, .ref (ad X 8))] [] := by
  unfold f_X6_addParts_b65 at h
  refine g_aload_n (pc := 65) C dX6_addParts_65 rfl 0 rfl ?_
  refine g_iconst (pc := 66) (v := 0) C dX6_addParts_66 (by decide) ?_
  refine g_aload_n (pc := 67) C dX6_addParts_67 rfl 0 rfl ?_
  refine g_get (pc := 68) C 8 (w_8 _ _) rfl 3 (Nat.le_of_ble_eq_true rfl) in_X6_X6_addParts k83_X6_addParts rfl dX6_addParts_68 ?_
  refine g_aload_n (pc := 71) C dX6_addParts_71 rfl 0 rfl ?_
  refine g_get (pc := 72) C 8 (w_8 _ _) rfl 5 (Nat.le_of_ble_eq_true rfl) in_X6_X6_addParts k57_X6_addParts rfl dX6_addParts_72 ?_
  refine g_aload_n (pc := 75) C dX6_addParts_75 rfl 0 rfl ?_
  refine g_get (pc := 76) C 8 (w_8 _ _) rfl 7 (Nat.le_of_ble_eq_true rfl) in_X6_X6_addParts k47_X6_addParts rfl dX6_addParts_76 ?_
  refine g_callV (pc := 79) C 8 (c_X6_addPart (Xl X) (Xb X) 0 (gI S 14) (gI S 16) (gI S 18) S) gX6_addParts_X6_addPart rfl rfl rfl hd_X6_addPart ⟨Nat.le_of_ble_eq_true rfl, Nat.le_of_ble_eq_true rfl⟩ (w_8 _ _) rfl rfl rfl (Nat.le_of_ble_eq_true rfl) dX6_addParts_79 h (fun _u9 S9 h => ?_)
  change G X _ S9 82 [(0, .ref (ad X 8))] []
  exact g_vret (pc := 82) C h dX6_addParts_82
set_option maxRecDepth 100000 in
set_option maxHeartbeats 4000000 in
theorem s_X6_addParts_b47 {X : MC} (C : Cx X cX6_addParts RX6 wsX6_addParts 3 rmX6_addParts none) (S : St) {r0 : Unit × St} (h : f_X6_addParts_b47 S = some r0) : G X (QM mkV X r0) S 47 [(0, .ref (ad X 8)), (2, .ref (ad X 6))] [] := by
  unfold f_X6_addParts_b47 at h
  refine g_aload_n (pc := 47) C dX6_addParts_47 rfl 0 rfl ?_
  refine g_bipush (pc := 48) (v := 16) C dX6_addParts_48 (by decide) ?_
  refine g_callV (pc := 50) C 8 (c_X6_isMarked (Xl X) (Xb X) 16 S) gX6_addParts_X6_isMarked rfl rfl rfl hd_X6_isMarked ⟨Nat.le_of_ble_eq_true rfl, Nat.le_of_ble_eq_true rfl⟩ (w_8 _ _) rfl rfl rfl (Nat.le_of_ble_eq_true rfl) dX6_addParts_50 h (fun r8 S7 h => ?_)
  change G X _ S7 53 [(0, .ref (ad X 8)), (2, .ref (ad X 6))] [.int r8]
  refine g_if_eq (pc := 53) (tgt := 65) C h dX6_addParts_53 (by decide) (fun h => ?_) (fun h => ?_)
  · refine g_weak (lv1 := [(0, .ref (ad X 8))]) [0] rfl ?_
    exact s_X6_addParts_b65 C   S7 h
  · refine g_aload_n (pc := 56) C dX6_addParts_56 rfl 0 rfl ?_
    refine g_aload_n (pc := 57) C dX6_addParts_57 rfl 1 rfl ?_
    refine g_callV (pc := 58) C 8 (c_X6_addTurn (Xl X) (Xb X) S7) gX6_addParts_X6_addTurn rfl rfl rfl hd_X6_addTurn ⟨Nat.le_of_ble_eq_true rfl, Nat.le_of_ble_eq_true rfl⟩ (w_8 _ _) rfl rfl rfl (Nat.le_of_ble_eq_true rfl) dX6_addParts_58 h (fun r11 S10 h => ?_)
    change G X _ S10 61 [(0, .ref (ad X 8)), (2, .ref (ad X 6))] [.int r11]
    refine g_if_eq (pc := 61) (tgt := 65) C h dX6_addParts_61 (by decide) (fun h => ?_) (fun h => ?_)
    · refine g_weak (lv1 := [(0, .ref (ad X 8))]) [0] rfl ?_
      exact s_X6_addParts_b65 C   S10 h
    · exact g_vret (pc := 64) C h dX6_addParts_64
set_option maxRecDepth 100000 in
set_option maxHeartbeats 4000000 in
theorem s_X6_addParts_b29 {X : MC} (C : Cx X cX6_addParts RX6 wsX6_addParts 3 rmX6_addParts none) (S : St) {r0 : Unit × St} (h : f_X6_addParts_b29 S = some r0) : G X (QM mkV X r0) S 29 [(0, .ref (ad X 8)), (2, .ref (ad X 6))] [] := by
  unfold f_X6_addParts_b29 at h
  refine g_aload_n (pc := 29) C dX6_addParts_29 rfl 0 rfl ?_
  refine g_bipush (pc := 30) (v := 8) C dX6_addParts_30 (by decide) ?_
  refine g_callV (pc := 32) C 8 (c_X6_isMarked (Xl X) (Xb X) 8 S) gX6_addParts_X6_isMarked rfl rfl rfl hd_X6_isMarked ⟨Nat.le_of_ble_eq_true rfl, Nat.le_of_ble_eq_true rfl⟩ (w_8 _ _) rfl rfl rfl (Nat.le_of_ble_eq_true rfl) dX6_addParts_32 h (fun r6 S5 h => ?_)
  change G X _ S5 35 [(0, .ref (ad X 8)), (2, .ref (ad X 6))] [.int r6]
  refine g_if_eq (pc := 35) (tgt := 47) C h dX6_addParts_35 (by decide) (fun h => ?_) (fun h => ?_)
  · refine g_weak (lv1 := [(0, .ref (ad X 8)), (2, .ref (ad X 6))]) [0, 1] rfl ?_
    exact s_X6_addParts_b47 C   S5 h
  · refine g_aload_n (pc := 38) C dX6_addParts_38 rfl 0 rfl ?_
    refine g_aload_n (pc := 39) C dX6_addParts_39 rfl 1 rfl ?_
    refine g_callV (pc := 40) C 8 (c_X6_addTrill (Xl X) (Xb X) S5) gX6_addParts_X6_addTrill rfl rfl rfl hd_X6_addTrill ⟨Nat.le_of_ble_eq_true rfl, Nat.le_of_ble_eq_true rfl⟩ (w_8 _ _) rfl rfl rfl (Nat.le_of_ble_eq_true rfl) dX6_addParts_40 h (fun r13 S12 h => ?_)
    change G X _ S12 43 [(0, .ref (ad X 8)), (2, .ref (ad X 6))] [.int r13]
    refine g_if_eq (pc := 43) (tgt := 47) C h dX6_addParts_43 (by decide) (fun h => ?_) (fun h => ?_)
    · refine g_weak (lv1 := [(0, .ref (ad X 8)), (2, .ref (ad X 6))]) [0, 1] rfl ?_
      exact s_X6_addParts_b47 C   S12 h
    · exact g_vret (pc := 46) C h dX6_addParts_46
set_option maxRecDepth 100000 in
set_option maxHeartbeats 4000000 in
theorem s_X6_addParts_b15 {X : MC} (C : Cx X cX6_addParts RX6 wsX6_addParts 3 rmX6_addParts none) (S : St) {r0 : Unit × St} (h : f_X6_addParts_b15 S = some r0) : G X (QM mkV X r0) S 15 [(0, .ref (ad X 8)), (2, .ref (ad X 6))] [] := by
  unfold f_X6_addParts_b15 at h
  refine g_aload_n (pc := 15) C dX6_addParts_15 rfl 0 rfl ?_
  refine g_bipush (pc := 16) (v := 32) C dX6_addParts_16 (by decide) ?_
  refine g_callV (pc := 18) C 8 (c_X6_isMarked (Xl X) (Xb X) 32 S) gX6_addParts_X6_isMarked rfl rfl rfl hd_X6_isMarked ⟨Nat.le_of_ble_eq_true rfl, Nat.le_of_ble_eq_true rfl⟩ (w_8 _ _) rfl rfl rfl (Nat.le_of_ble_eq_true rfl) dX6_addParts_18 h (fun r4 S3 h => ?_)
  change G X _ S3 21 [(0, .ref (ad X 8)), (2, .ref (ad X 6))] [.int r4]
  refine g_if_eq (pc := 21) (tgt := 29) C h dX6_addParts_21 (by decide) (fun h => ?_) (fun h => ?_)
  · refine g_weak (lv1 := [(0, .ref (ad X 8)), (2, .ref (ad X 6))]) [0, 1] rfl ?_
    exact s_X6_addParts_b29 C   S3 h
  · refine g_aload_n (pc := 24) C dX6_addParts_24 rfl 0 rfl ?_
    refine g_aload_n (pc := 25) C dX6_addParts_25 rfl 1 rfl ?_
    refine g_callV (pc := 26) C 8 (c_X6_addLean (Xl X) (Xb X) S3) gX6_addParts_X6_addLean rfl rfl rfl hd_X6_addLean ⟨Nat.le_of_ble_eq_true rfl, Nat.le_of_ble_eq_true rfl⟩ (w_8 _ _) rfl rfl rfl (Nat.le_of_ble_eq_true rfl) dX6_addParts_26 h (fun _u14 S14 h => ?_)
    change G X _ S14 29 [(0, .ref (ad X 8)), (2, .ref (ad X 6))] []
    refine g_weak (lv1 := [(0, .ref (ad X 8)), (2, .ref (ad X 6))]) [0, 1] rfl ?_
    exact s_X6_addParts_b29 C   S14 h
set_option maxRecDepth 100000 in
set_option maxHeartbeats 4000000 in
theorem s_X6_addParts_b0 {X : MC} (C : Cx X cX6_addParts RX6 wsX6_addParts 3 rmX6_addParts none) (S : St) {r0 : Unit × St} (h : f_X6_addParts_b0 S = some r0) : G X (QM mkV X r0) S 0 [(0, .ref (ad X 8)), (1, .ref (ad X 2)), (2, .ref (ad X 6))] [] := by
  unfold f_X6_addParts_b0 at h
  refine g_aload_n (pc := 0) C dX6_addParts_0 rfl 0 rfl ?_
  refine g_bipush (pc := 1) (v := 64) C dX6_addParts_1 (by decide) ?_
  refine g_callV (pc := 3) C 8 (c_X6_isMarked (Xl X) (Xb X) 64 S) gX6_addParts_X6_isMarked rfl rfl rfl hd_X6_isMarked ⟨Nat.le_of_ble_eq_true rfl, Nat.le_of_ble_eq_true rfl⟩ (w_8 _ _) rfl rfl rfl (Nat.le_of_ble_eq_true rfl) dX6_addParts_3 h (fun r2 S1 h => ?_)
  change G X _ S1 6 [(0, .ref (ad X 8)), (1, .ref (ad X 2)), (2, .ref (ad X 6))] [.int r2]
  refine g_if_eq (pc := 6) (tgt := 15) C h dX6_addParts_6 (by decide) (fun h => ?_) (fun h => ?_)
  · refine g_weak (lv1 := [(0, .ref (ad X 8)), (2, .ref (ad X 6))]) [0, 2] rfl ?_
    exact s_X6_addParts_b15 C   S1 h
  · refine g_aload_n (pc := 9) C dX6_addParts_9 rfl 0 rfl ?_
    refine g_aload_n (pc := 10) C dX6_addParts_10 rfl 1 rfl ?_
    refine g_aload_n (pc := 11) C dX6_addParts_11 rfl 2 rfl ?_
    refine g_callV (pc := 12) C 8 (c_X6_roll (Xl X) (Xb X) S1) gX6_addParts_X6_roll rfl rfl rfl hd_X6_roll ⟨Nat.le_of_ble_eq_true rfl, Nat.le_of_ble_eq_true rfl⟩ (w_8 _ _) rfl rfl rfl (Nat.le_of_ble_eq_true rfl) dX6_addParts_12 h (fun _u15 S15 h => ?_)
    change G X _ S15 15 [(0, .ref (ad X 8)), (1, .ref (ad X 2)), (2, .ref (ad X 6))] []
    refine g_weak (lv1 := [(0, .ref (ad X 8)), (2, .ref (ad X 6))]) [0, 2] rfl ?_
    exact s_X6_addParts_b15 C   S15 h
theorem c_X6_addParts (l : Launch) (b : Bw) (S : St) : Ct l b yX6_addParts wsX6_addParts rmX6_addParts [.ref (bad b 8), .ref (bad b 2), .ref (bad b 6)] S mkV (f_X6_addParts S) := Ct.of (by decide +kernel) rfl (Nat.le_of_ble_eq_true rfl) (fun X C hl hb r h => by
  subst hl; subst hb
  exact s_X6_addParts_b0 C S h)
/-! StyleRows$Performer.makeParts(LStyleRows$Score;LStyleRows$Rules;J)Z -/
set_option maxRecDepth 100000 in
set_option maxHeartbeats 4000000 in
theorem s_X6_makeParts_b131 {X : MC} (C : Cx X cX6_makeParts RX6 wsX6_makeParts 6 rmX6_makeParts (some .boolean)) (w0 : Int32) (S : St) {r0 : Int32 × St} (h : f_X6_makeParts_b131 w0 S = some r0) : G X (QM mkI X r0) S 131 [] [.int w0] := by
  unfold f_X6_makeParts_b131 at h
  exact g_zret (pc := 131) C h dX6_makeParts_131
set_option maxRecDepth 100000 in
set_option maxHeartbeats 4000000 in
theorem s_X6_makeParts_b116 {X : MC} (C : Cx X cX6_makeParts RX6 wsX6_makeParts 6 rmX6_makeParts (some .boolean)) (S : St) {r0 : Int32 × St} (h : f_X6_makeParts_b116 S = some r0) : G X (QM mkI X r0) S 116 [(0, .ref (ad X 8))] [] := by
  unfold f_X6_makeParts_b116 at h
  refine g_aload_n (pc := 116) C dX6_makeParts_116 rfl 0 rfl ?_
  refine g_get (pc := 117) C 8 (w_8 _ _) rfl 0 (Nat.le_of_ble_eq_true rfl) in_X6_X6_makeParts k10_X6_makeParts rfl dX6_makeParts_117 ?_
  refine g_getN (pc := 120) C 9 (w_9 _ _) rfl 2 (Nat.le_of_ble_eq_true rfl) in_X1_X6_makeParts nw_X6_31 rfl dX6_makeParts_120 ?_
  refine g_if_ne (pc := 123) (tgt := 130) C h dX6_makeParts_123 (by decide) (fun h => ?_) (fun h => ?_)
  · refine g_iconst (pc := 130) (v := 0) C dX6_makeParts_130 (by decide) ?_
    refine g_weak (lv1 := []) [] rfl ?_
    exact s_X6_makeParts_b131 C 0  S h
  · refine g_iconst (pc := 126) (v := 1) C dX6_makeParts_126 (by decide) ?_
    refine g_goto (pc := 127) (tgt := 131) C dX6_makeParts_127 (by decide) ?_
    refine g_weak (lv1 := []) [] rfl ?_
    exact s_X6_makeParts_b131 C 1  S h
set_option maxRecDepth 100000 in
set_option maxHeartbeats 4000000 in
theorem s_X6_makeParts_b10 {X : MC} (C : Cx X cX6_makeParts RX6 wsX6_makeParts 6 rmX6_makeParts (some .boolean)) {rec10 : Int32 × St → Option (Int32 × St)} (v3 : Int64) (v5 : Int32) (hrec10 : ∀ (s : Int32 × St) (r : Int32 × St), rec10 s = some r → G X (QM mkI X r) s.2 10 [(0, .ref (ad X 8)), (1, .ref (ad X 1)), (2, .ref (ad X 6)), (3, .long v3), (5, .int (s.1))] []) (S : St) {r0 : Int32 × St} (h : f_X6_makeParts_b10 rec10 v3 v5 S = some r0) : G X (QM mkI X r0) S 10 [(0, .ref (ad X 8)), (1, .ref (ad X 1)), (2, .ref (ad X 6)), (3, .long v3), (5, .int v5)] [] := by
  unfold f_X6_makeParts_b10 at h
  refine g_iload (pc := 10) C dX6_makeParts_10 4 rfl ?_
  refine g_aload_n (pc := 12) C dX6_makeParts_12 rfl 1 rfl ?_
  refine g_getN (pc := 13) C 1 (w_1 _ _) rfl 0 (Nat.le_of_ble_eq_true rfl) in_X9_X6_makeParts nw_X6_19 rfl dX6_makeParts_13 ?_
  refine g_getN (pc := 16) C 2 (w_2 _ _) rfl 5 (Nat.le_of_ble_eq_true rfl) in_X4_X6_makeParts nw_X6_25 rfl dX6_makeParts_16 ?_
  refine g_icmp_ge (pc := 19) (tgt := 116) C h dX6_makeParts_19 (by decide) (fun h => ?_) (fun h => ?_)
  · refine g_weak (lv1 := [(0, .ref (ad X 8))]) [0] rfl ?_
    exact s_X6_makeParts_b116 C   S h
  · refine g_aload_n (pc := 22) C dX6_makeParts_22 rfl 0 rfl ?_
    refine g_get (pc := 23) C 8 (w_8 _ _) rfl 0 (Nat.le_of_ble_eq_true rfl) in_X6_X6_makeParts k10_X6_makeParts rfl dX6_makeParts_23 ?_
    refine g_getN (pc := 26) C 9 (w_9 _ _) rfl 2 (Nat.le_of_ble_eq_true rfl) in_X1_X6_makeParts nw_X6_31 rfl dX6_makeParts_26 ?_
    refine g_if_ne (pc := 29) (tgt := 116) C h dX6_makeParts_29 (by decide) (fun h => ?_) (fun h => ?_)
    · refine g_weak (lv1 := [(0, .ref (ad X 8))]) [0] rfl ?_
      exact s_X6_makeParts_b116 C   S h
    · refine g_aload_n (pc := 32) C dX6_makeParts_32 rfl 0 rfl ?_
      refine g_aload_n (pc := 33) C dX6_makeParts_33 rfl 1 rfl ?_
      refine g_getN (pc := 34) C 1 (w_1 _ _) rfl 0 (Nat.le_of_ble_eq_true rfl) in_X9_X6_makeParts nw_X6_19 rfl dX6_makeParts_34 ?_
      refine g_iload (pc := 37) C dX6_makeParts_37 4 rfl ?_
      refine g_callV (pc := 39) C 8 (c_X6_takeNote (Xl X) (Xb X) v5 S) gX6_makeParts_X6_takeNote rfl rfl rfl hd_X6_takeNote ⟨Nat.le_of_ble_eq_true rfl, Nat.le_of_ble_eq_true rfl⟩ (w_8 _ _) rfl rfl rfl (Nat.le_of_ble_eq_true rfl) dX6_makeParts_39 h (fun _u2 S2 h => ?_)
      change G X _ S2 42 [(0, .ref (ad X 8)), (1, .ref (ad X 1)), (2, .ref (ad X 6)), (3, .long v3), (5, .int v5)] []
      refine g_aload_n (pc := 42) C dX6_makeParts_42 rfl 0 rfl ?_
      refine g_aload_n (pc := 43) C dX6_makeParts_43 rfl 0 rfl ?_
      refine g_aload_n (pc := 44) C dX6_makeParts_44 rfl 1 rfl ?_
      refine g_getN (pc := 45) C 1 (w_1 _ _) rfl 0 (Nat.le_of_ble_eq_true rfl) in_X9_X6_makeParts nw_X6_19 rfl dX6_makeParts_45 ?_
      refine g_getN (pc := 48) C 2 (w_2 _ _) rfl 2 (Nat.le_of_ble_eq_true rfl) in_X4_X6_makeParts nw_X6_39 rfl dX6_makeParts_48 ?_
      refine g_iload (pc := 51) C dX6_makeParts_51 4 rfl ?_
      refine g_iald (pc := 53) C 15 (w_15 _ _) h dX6_makeParts_53 (fun h => ?_)
      refine g_aload_n (pc := 54) C dX6_makeParts_54 rfl 2 rfl ?_
      refine g_callV (pc := 55) C 8 (c_X6_longOf (Xl X) (Xb X) (rd S2 15 v5) S2) gX6_makeParts_X6_longOf rfl rfl rfl hd_X6_longOf ⟨Nat.le_of_ble_eq_true rfl, Nat.le_of_ble_eq_true rfl⟩ (w_8 _ _) rfl rfl rfl (Nat.le_of_ble_eq_true rfl) dX6_makeParts_55 h (fun r4 S3 h => ?_)
      change G X _ S3 58 [(0, .ref (ad X 8)), (1, .ref (ad X 1)), (2, .ref (ad X 6)), (3, .long v3), (5, .int v5)] [.int r4, .ref (ad X 8)]
      refine g_put (pc := 58) C 8 (w_8 _ _) rfl 7 (Nat.le_of_ble_eq_true rfl) in_X6_X6_makeParts tyX6_ok nmX6 k47_X6_makeParts rfl rfl rfl (Nat.le_of_ble_eq_true rfl) (ws_8_7 _ _ _) dX6_makeParts_58 h (fun S5 h => ?_)
      refine g_aload_n (pc := 61) C dX6_makeParts_61 rfl 0 rfl ?_
      refine g_aload_n (pc := 62) C dX6_makeParts_62 rfl 0 rfl ?_
      refine g_aload_n (pc := 63) C dX6_makeParts_63 rfl 1 rfl ?_
      refine g_aload_n (pc := 64) C dX6_makeParts_64 rfl 1 rfl ?_
      refine g_getN (pc := 65) C 1 (w_1 _ _) rfl 0 (Nat.le_of_ble_eq_true rfl) in_X9_X6_makeParts nw_X6_19 rfl dX6_makeParts_65 ?_
      refine g_getN (pc := 68) C 2 (w_2 _ _) rfl 1 (Nat.le_of_ble_eq_true rfl) in_X4_X6_makeParts nw_X6_50 rfl dX6_makeParts_68 ?_
      refine g_iload (pc := 71) C dX6_makeParts_71 4 rfl ?_
      refine g_iald (pc := 73) C 14 (w_14 _ _) h dX6_makeParts_73 (fun h => ?_)
      refine g_aload_n (pc := 74) C dX6_makeParts_74 rfl 2 rfl ?_
      refine g_callV (pc := 75) C 8 (c_X6_loudOf (Xl X) (Xb X) (rd S5 14 v5) S5) gX6_makeParts_X6_loudOf rfl rfl rfl hd_X6_loudOf ⟨Nat.le_of_ble_eq_true rfl, Nat.le_of_ble_eq_true rfl⟩ (w_8 _ _) rfl rfl rfl (Nat.le_of_ble_eq_true rfl) dX6_makeParts_75 h (fun r7 S6 h => ?_)
      change G X _ S6 78 [(0, .ref (ad X 8)), (1, .ref (ad X 1)), (2, .ref (ad X 6)), (3, .long v3), (5, .int v5)] [.int r7, .ref (ad X 8)]
      refine g_put (pc := 78) C 8 (w_8 _ _) rfl 5 (Nat.le_of_ble_eq_true rfl) in_X6_X6_makeParts tyX6_ok nmX6 k57_X6_makeParts rfl rfl rfl (Nat.le_of_ble_eq_true rfl) (ws_8_5 _ _ _) dX6_makeParts_78 h (fun S8 h => ?_)
      refine g_aload_n (pc := 81) C dX6_makeParts_81 rfl 0 rfl ?_
      refine g_aload_n (pc := 82) C dX6_makeParts_82 rfl 0 rfl ?_
      refine g_aload_n (pc := 83) C dX6_makeParts_83 rfl 1 rfl ?_
      refine g_getN (pc := 84) C 1 (w_1 _ _) rfl 0 (Nat.le_of_ble_eq_true rfl) in_X9_X6_makeParts nw_X6_19 rfl dX6_makeParts_84 ?_
      refine g_getN (pc := 87) C 2 (w_2 _ _) rfl 1 (Nat.le_of_ble_eq_true rfl) in_X4_X6_makeParts nw_X6_50 rfl dX6_makeParts_87 ?_
      refine g_iload (pc := 90) C dX6_makeParts_90 4 rfl ?_
      refine g_iald (pc := 92) C 14 (w_14 _ _) h dX6_makeParts_92 (fun h => ?_)
      refine g_aload_n (pc := 93) C dX6_makeParts_93 rfl 2 rfl ?_
      refine g_lload_n (pc := 94) C dX6_makeParts_94 rfl 3 rfl ?_
      refine g_callV (pc := 95) C 8 (c_X6_onOf (Xl X) (Xb X) (rd S8 14 v5) v3 S8) gX6_makeParts_X6_onOf rfl rfl rfl hd_X6_onOf ⟨Nat.le_of_ble_eq_true rfl, Nat.le_of_ble_eq_true rfl⟩ (w_8 _ _) rfl rfl rfl (Nat.le_of_ble_eq_true rfl) dX6_makeParts_95 h (fun r10 S9 h => ?_)
      change G X _ S9 98 [(0, .ref (ad X 8)), (1, .ref (ad X 1)), (2, .ref (ad X 6)), (3, .long v3), (5, .int v5)] [.int r10, .ref (ad X 8)]
      refine g_put (pc := 98) C 8 (w_8 _ _) rfl 6 (Nat.le_of_ble_eq_true rfl) in_X6_X6_makeParts tyX6_ok nmX6 k64_X6_makeParts rfl rfl rfl (Nat.le_of_ble_eq_true rfl) (ws_8_6 _ _ _) dX6_makeParts_98 h (fun S11 h => ?_)
      refine g_aload_n (pc := 101) C dX6_makeParts_101 rfl 0 rfl ?_
      refine g_aload_n (pc := 102) C dX6_makeParts_102 rfl 1 rfl ?_
      refine g_getN (pc := 103) C 1 (w_1 _ _) rfl 0 (Nat.le_of_ble_eq_true rfl) in_X9_X6_makeParts nw_X6_19 rfl dX6_makeParts_103 ?_
      refine g_aload_n (pc := 106) C dX6_makeParts_106 rfl 2 rfl ?_
      refine g_callV (pc := 107) C 8 (c_X6_addParts (Xl X) (Xb X) S11) gX6_makeParts_X6_addParts rfl rfl rfl hd_X6_addParts ⟨Nat.le_of_ble_eq_true rfl, Nat.le_of_ble_eq_true rfl⟩ (w_8 _ _) rfl rfl rfl (Nat.le_of_ble_eq_true rfl) dX6_makeParts_107 h (fun _u12 S12 h => ?_)
      change G X _ S12 110 [(0, .ref (ad X 8)), (1, .ref (ad X 1)), (2, .ref (ad X 6)), (3, .long v3), (5, .int v5)] []
      refine g_iinc (pc := 110) (v := v5 + 1) C [(5, .int (v5 + 1)), (0, .ref (ad X 8)), (1, .ref (ad X 1)), (2, .ref (ad X 6)), (3, .long v3)] dX6_makeParts_110 4 rfl rfl (Nat.le_of_ble_eq_true rfl) rfl ?_
      refine g_goto (pc := 113) (tgt := 10) C dX6_makeParts_113 (by decide) ?_
      refine g_weak (lv1 := [(0, .ref (ad X 8)), (1, .ref (ad X 1)), (2, .ref (ad X 6)), (3, .long v3), (5, .int (v5 + 1))]) [1, 2, 3, 4, 0] rfl ?_
      exact hrec10 (v5 + 1, S12) _ h
set_option maxRecDepth 100000 in
set_option maxHeartbeats 4000000 in
theorem s_X6_makeParts_l10 {X : MC} (C : Cx X cX6_makeParts RX6 wsX6_makeParts 6 rmX6_makeParts (some .boolean)) (v3 : Int64) : ∀ (n : Nat) (s : Int32 × St) (r : Int32 × St), f_X6_makeParts_l10 v3 n s = some r → G X (QM mkI X r) s.2 10 [(0, .ref (ad X 8)), (1, .ref (ad X 1)), (2, .ref (ad X 6)), (3, .long v3), (5, .int (s.1))] [] :=
  loop_sound (fun rec10 hrec10 s r h => s_X6_makeParts_b10 C v3 s.1 hrec10 s.2 h)
set_option maxRecDepth 100000 in
set_option maxHeartbeats 4000000 in
theorem s_X6_makeParts_b0 {X : MC} (C : Cx X cX6_makeParts RX6 wsX6_makeParts 6 rmX6_makeParts (some .boolean)) (a3 : Int64) (S : St) {r0 : Int32 × St} (h : f_X6_makeParts_b0 a3 S = some r0) : G X (QM mkI X r0) S 0 [(0, .ref (ad X 8)), (1, .ref (ad X 1)), (2, .ref (ad X 6)), (3, .long a3)] [] := by
  unfold f_X6_makeParts_b0 at h
  refine g_aload_n (pc := 0) C dX6_makeParts_0 rfl 0 rfl ?_
  refine g_get (pc := 1) C 8 (w_8 _ _) rfl 0 (Nat.le_of_ble_eq_true rfl) in_X6_X6_makeParts k10_X6_makeParts rfl dX6_makeParts_1 ?_
  refine g_callV (pc := 4) C 9 (c_X1_clear (Xl X) (Xb X) S) gX6_makeParts_X1_clear rfl rfl rfl hd_X1_clear ⟨Nat.le_of_ble_eq_true rfl, Nat.le_of_ble_eq_true rfl⟩ (w_9 _ _) rfl rfl rfl (Nat.le_of_ble_eq_true rfl) dX6_makeParts_4 h (fun _u1 S1 h => ?_)
  change G X _ S1 7 [(0, .ref (ad X 8)), (1, .ref (ad X 1)), (2, .ref (ad X 6)), (3, .long a3)] []
  refine g_iconst (pc := 7) (v := 0) C dX6_makeParts_7 (by decide) ?_
  refine g_istore (pc := 8) C [(5, .int 0), (0, .ref (ad X 8)), (1, .ref (ad X 1)), (2, .ref (ad X 6)), (3, .long a3)] dX6_makeParts_8 (Nat.le_of_ble_eq_true rfl) rfl ?_
  refine g_weak (lv1 := [(0, .ref (ad X 8)), (1, .ref (ad X 1)), (2, .ref (ad X 6)), (3, .long a3), (5, .int 0)]) [1, 2, 3, 4, 0] rfl ?_
  exact s_X6_makeParts_l10 C a3 _ (0, S1) _ h
theorem c_X6_makeParts (l : Launch) (b : Bw) (a3 : Int64) (S : St) : Ct l b yX6_makeParts wsX6_makeParts rmX6_makeParts [.ref (bad b 8), .ref (bad b 1), .ref (bad b 6), .long a3] S mkI (f_X6_makeParts a3 S) := Ct.of (by decide +kernel) rfl (Nat.le_of_ble_eq_true rfl) (fun X C hl hb r h => by
  subst hl; subst hb
  exact s_X6_makeParts_b0 C a3 S h)
/-! StyleRows$Events.bend(LStyleRows$Arcs;)V -/
set_option maxRecDepth 100000 in
set_option maxHeartbeats 4000000 in
theorem s_X1_bend_b2 {X : MC} (C : Cx X cX1_bend RX1 wsX1_bend 5 rmX1_bend none) {rec2 : Int32 × St → Option (Unit × St)} (v2 : Int32) (hrec2 : ∀ (s : Int32 × St) (r : Unit × St), rec2 s = some r → G X (QM mkV X r) s.2 2 [(0, .ref (ad X 9)), (1, .ref (ad X 4)), (2, .int (s.1))] []) (S : St) {r0 : Unit × St} (h : f_X1_bend_b2 rec2 v2 S = some r0) : G X (QM mkV X r0) S 2 [(0, .ref (ad X 9)), (1, .ref (ad X 4)), (2, .int v2)] [] := by
  unfold f_X1_bend_b2 at h
  refine g_iload_n (pc := 2) C dX1_bend_2 rfl 2 rfl ?_
  refine g_aload_n (pc := 3) C dX1_bend_3 rfl 0 rfl ?_
  refine g_get (pc := 4) C 9 (w_9 _ _) rfl 1 (Nat.le_of_ble_eq_true rfl) in_X1_X1_bend k16_X1_bend rfl dX1_bend_4 ?_
  refine g_icmp_ge (pc := 7) (tgt := 77) C h dX1_bend_7 (by decide) (fun h => ?_) (fun h => ?_)
  · exact g_vret (pc := 77) C h dX1_bend_77
  · refine g_aload_n (pc := 10) C dX1_bend_10 rfl 1 rfl ?_
    refine g_aload_n (pc := 11) C dX1_bend_11 rfl 0 rfl ?_
    refine g_get (pc := 12) C 9 (w_9 _ _) rfl 0 (Nat.le_of_ble_eq_true rfl) in_X1_X1_bend k13_X1_bend rfl dX1_bend_12 ?_
    refine g_iconst (pc := 15) (v := 0) C dX1_bend_15 (by decide) ?_
    refine g_aaldc (pc := 16) (i := 0) C 31 32 (w_31 _ _) rfl rfl dX1_bend_16 ?_
    refine g_iload_n (pc := 17) C dX1_bend_17 rfl 2 rfl ?_
    refine g_iald (pc := 18) C 32 (w_32 _ _) h dX1_bend_18 (fun h => ?_)
    refine g_callV (pc := 19) C 4 (c_X0_bent (Xl X) (Xb X) (rd S 32 v2) S) gX1_bend_X0_bent rfl rfl rfl hd_X0_bent ⟨Nat.le_of_ble_eq_true rfl, Nat.le_of_ble_eq_true rfl⟩ (w_4 _ _) rfl rfl rfl (Nat.le_of_ble_eq_true rfl) dX1_bend_19 h (fun r2 S1 h => ?_)
    change G X _ S1 22 [(0, .ref (ad X 9)), (1, .ref (ad X 4)), (2, .int v2)] [.int r2]
    refine g_istore_n (pc := 22) C [(3, .int r2), (0, .ref (ad X 9)), (1, .ref (ad X 4)), (2, .int v2)] dX1_bend_22 rfl (Nat.le_of_ble_eq_true rfl) rfl ?_
    refine g_aload_n (pc := 23) C dX1_bend_23 rfl 2 rfl ?_
    refine g_aload_n (pc := 24) C dX1_bend_24 rfl 1 rfl ?_
    refine g_get (pc := 25) C 9 (w_9 _ _) rfl 0 (Nat.le_of_ble_eq_true rfl) in_X1_X1_bend k13_X1_bend rfl dX1_bend_25 ?_
    refine g_iconst (pc := 28) (v := 0) C dX1_bend_28 (by decide) ?_
    refine g_aaldc (pc := 29) (i := 0) C 31 32 (w_31 _ _) rfl rfl dX1_bend_29 ?_
    refine g_iload_n (pc := 30) C dX1_bend_30 rfl 3 rfl ?_
    refine g_iald (pc := 31) C 32 (w_32 _ _) h dX1_bend_31 (fun h => ?_)
    refine g_aload_n (pc := 32) C dX1_bend_32 rfl 1 rfl ?_
    refine g_get (pc := 33) C 9 (w_9 _ _) rfl 0 (Nat.le_of_ble_eq_true rfl) in_X1_X1_bend k13_X1_bend rfl dX1_bend_33 ?_
    refine g_iconst (pc := 36) (v := 1) C dX1_bend_36 (by decide) ?_
    refine g_aaldc (pc := 37) (i := 1) C 31 33 (w_31 _ _) rfl rfl dX1_bend_37 ?_
    refine g_iload_n (pc := 38) C dX1_bend_38 rfl 3 rfl ?_
    refine g_iald (pc := 39) C 33 (w_33 _ _) h dX1_bend_39 (fun h => ?_)
    refine g_iadd (pc := 40) C dX1_bend_40 ?_
    refine g_callV (pc := 41) C 4 (c_X0_bent (Xl X) (Xb X) ((rd S1 32 v2) + (rd S1 33 v2)) S1) gX1_bend_X0_bent rfl rfl rfl hd_X0_bent ⟨Nat.le_of_ble_eq_true rfl, Nat.le_of_ble_eq_true rfl⟩ (w_4 _ _) rfl rfl rfl (Nat.le_of_ble_eq_true rfl) dX1_bend_41 h (fun r4 S3 h => ?_)
    change G X _ S3 44 [(3, .int r2), (0, .ref (ad X 9)), (1, .ref (ad X 4)), (2, .int v2)] [.int r4]
    refine g_istore (pc := 44) C [(4, .int r4), (3, .int r2), (0, .ref (ad X 9)), (1, .ref (ad X 4)), (2, .int v2)] dX1_bend_44 (Nat.le_of_ble_eq_true rfl) rfl ?_
    refine g_aload_n (pc := 46) C dX1_bend_46 rfl 2 rfl ?_
    refine g_get (pc := 47) C 9 (w_9 _ _) rfl 0 (Nat.le_of_ble_eq_true rfl) in_X1_X1_bend k13_X1_bend rfl dX1_bend_47 ?_
    refine g_iconst (pc := 50) (v := 0) C dX1_bend_50 (by decide) ?_
    refine g_aaldc (pc := 51) (i := 0) C 31 32 (w_31 _ _) rfl rfl dX1_bend_51 ?_
    refine g_iload_n (pc := 52) C dX1_bend_52 rfl 4 rfl ?_
    refine g_iload_n (pc := 53) C dX1_bend_53 rfl 1 rfl ?_
    refine g_iast (pc := 54) C 32 (w_32 _ _) (ws_32 _ _) h dX1_bend_54 (fun S5 h => ?_)
    refine g_aload_n (pc := 55) C dX1_bend_55 rfl 2 rfl ?_
    refine g_get (pc := 56) C 9 (w_9 _ _) rfl 0 (Nat.le_of_ble_eq_true rfl) in_X1_X1_bend k13_X1_bend rfl dX1_bend_56 ?_
    refine g_iconst (pc := 59) (v := 1) C dX1_bend_59 (by decide) ?_
    refine g_aaldc (pc := 60) (i := 1) C 31 33 (w_31 _ _) rfl rfl dX1_bend_60 ?_
    refine g_iload_n (pc := 61) C dX1_bend_61 rfl 4 rfl ?_
    refine g_iconst (pc := 62) (v := 1) C dX1_bend_62 (by decide) ?_
    refine g_iload (pc := 63) C dX1_bend_63 0 rfl ?_
    refine g_iload_n (pc := 65) C dX1_bend_65 rfl 1 rfl ?_
    refine g_isub (pc := 66) C dX1_bend_66 ?_
    refine g_mmax (pc := 67) C k34_X1_bend kstmax_X1_bend kini_X1_bend kcomax_X1_bend (Nat.le_of_ble_eq_true rfl) (Nat.le_of_ble_eq_true rfl) dX1_bend_67 ?_
    refine g_iast (pc := 70) C 33 (w_33 _ _) (ws_33 _ _) h dX1_bend_70 (fun S6 h => ?_)
    refine g_iinc (pc := 71) (v := v2 + 1) C [(2, .int (v2 + 1)), (4, .int r4), (3, .int r2), (0, .ref (ad X 9)), (1, .ref (ad X 4))] dX1_bend_71 4 rfl rfl (Nat.le_of_ble_eq_true rfl) rfl ?_
    refine g_goto (pc := 74) (tgt := 2) C dX1_bend_74 (by decide) ?_
    refine g_weak (lv1 := [(0, .ref (ad X 9)), (1, .ref (ad X 4)), (2, .int (v2 + 1))]) [3, 4, 0] rfl ?_
    exact hrec2 (v2 + 1, S6) _ h
set_option maxRecDepth 100000 in
set_option maxHeartbeats 4000000 in
theorem s_X1_bend_l2 {X : MC} (C : Cx X cX1_bend RX1 wsX1_bend 5 rmX1_bend none) : ∀ (n : Nat) (s : Int32 × St) (r : Unit × St), f_X1_bend_l2 n s = some r → G X (QM mkV X r) s.2 2 [(0, .ref (ad X 9)), (1, .ref (ad X 4)), (2, .int (s.1))] [] :=
  loop_sound (fun rec2 hrec2 s r h => s_X1_bend_b2 C s.1 hrec2 s.2 h)
set_option maxRecDepth 100000 in
set_option maxHeartbeats 4000000 in
theorem s_X1_bend_b0 {X : MC} (C : Cx X cX1_bend RX1 wsX1_bend 5 rmX1_bend none) (S : St) {r0 : Unit × St} (h : f_X1_bend_b0 S = some r0) : G X (QM mkV X r0) S 0 [(0, .ref (ad X 9)), (1, .ref (ad X 4))] [] := by
  unfold f_X1_bend_b0 at h
  refine g_iconst (pc := 0) (v := 0) C dX1_bend_0 (by decide) ?_
  refine g_istore_n (pc := 1) C [(2, .int 0), (0, .ref (ad X 9)), (1, .ref (ad X 4))] dX1_bend_1 rfl (Nat.le_of_ble_eq_true rfl) rfl ?_
  refine g_weak (lv1 := [(0, .ref (ad X 9)), (1, .ref (ad X 4)), (2, .int 0)]) [1, 2, 0] rfl ?_
  exact s_X1_bend_l2 C  _ (0, S) _ h
theorem c_X1_bend (l : Launch) (b : Bw) (S : St) : Ct l b yX1_bend wsX1_bend rmX1_bend [.ref (bad b 9), .ref (bad b 4)] S mkV (f_X1_bend S) := Ct.of (by decide +kernel) rfl (Nat.le_of_ble_eq_true rfl) (fun X C hl hb r h => by
  subst hl; subst hb
  exact s_X1_bend_b0 C S h)
/-! StyleRows$Order.merge(III)V -/
set_option maxRecDepth 100000 in
set_option maxHeartbeats 4000000 in
theorem s_X5_merge_b82 {X : MC} (C : Cx X cX5_merge RX5 wsX5_merge 7 rmX5_merge none) {rec9 : Int32 × Int32 × Int32 × St → Option (Unit × St)} (v2 : Int32) (v3 : Int32) (v4 : Int32) (v5 : Int32) (v6 : Int32) (hrec9 : ∀ (s : Int32 × Int32 × Int32 × St) (r : Unit × St), rec9 s = some r → G X (QM mkV X r) s.2.2.2 9 [(0, .ref (ad X 10)), (2, .int v2), (3, .int v3), (4, .int (s.1)), (5, .int (s.2.1)), (6, .int (s.2.2.1))] []) (S : St) {r0 : Unit × St} (h : f_X5_merge_b82 rec9 v2 v3 v4 v5 v6 S = some r0) : G X (QM mkV X r0) S 82 [(0, .ref (ad X 10)), (2, .int v2), (3, .int v3), (4, .int v4), (5, .int v5), (6, .int v6)] [] := by
  unfold f_X5_merge_b82 at h
  refine g_iinc (pc := 82) (v := v6 + 1) C [(6, .int (v6 + 1)), (0, .ref (ad X 10)), (2, .int v2), (3, .int v3), (4, .int v4), (5, .int v5)] dX5_merge_82 5 rfl rfl (Nat.le_of_ble_eq_true rfl) rfl ?_
  refine g_goto (pc := 85) (tgt := 9) C dX5_merge_85 (by decide) ?_
  refine g_weak (lv1 := [(0, .ref (ad X 10)), (2, .int v2), (3, .int v3), (4, .int v4), (5, .int v5), (6, .int (v6 + 1))]) [1, 2, 3, 4, 5, 0] rfl ?_
  exact hrec9 (v4, v5, v6 + 1, S) _ h
set_option maxRecDepth 100000 in
set_option maxHeartbeats 4000000 in
theorem s_X5_merge_b65 {X : MC} (C : Cx X cX5_merge RX5 wsX5_merge 7 rmX5_merge none) {rec9 : Int32 × Int32 × Int32 × St → Option (Unit × St)} (v2 : Int32) (v3 : Int32) (v4 : Int32) (v5 : Int32) (v6 : Int32) (hrec9 : ∀ (s : Int32 × Int32 × Int32 × St) (r : Unit × St), rec9 s = some r → G X (QM mkV X r) s.2.2.2 9 [(0, .ref (ad X 10)), (2, .int v2), (3, .int v3), (4, .int (s.1)), (5, .int (s.2.1)), (6, .int (s.2.2.1))] []) (S : St) {r0 : Unit × St} (h : f_X5_merge_b65 rec9 v2 v3 v4 v5 v6 S = some r0) : G X (QM mkV X r0) S 65 [(0, .ref (ad X 10)), (2, .int v2), (3, .int v3), (4, .int v4), (5, .int v5), (6, .int v6)] [] := by
  unfold f_X5_merge_b65 at h
  refine g_aload_n (pc := 65) C dX5_merge_65 rfl 0 rfl ?_
  refine g_get (pc := 66) C 10 (w_10 _ _) rfl 1 (Nat.le_of_ble_eq_true rfl) in_X5_X5_merge k17_X5_merge rfl dX5_merge_66 ?_
  refine g_iload (pc := 69) C dX5_merge_69 5 rfl ?_
  refine g_aload_n (pc := 71) C dX5_merge_71 rfl 0 rfl ?_
  refine g_get (pc := 72) C 10 (w_10 _ _) rfl 0 (Nat.le_of_ble_eq_true rfl) in_X5_X5_merge k11_X5_merge rfl dX5_merge_72 ?_
  refine g_iload (pc := 75) C dX5_merge_75 4 rfl ?_
  refine g_lald (pc := 77) C _ h dX5_merge_77 (fun h => ?_)
  refine g_last (pc := 78) C _ h dX5_merge_78 (fun S1 h => ?_)
  refine g_iinc (pc := 79) (v := v5 + 1) C [(5, .int (v5 + 1)), (0, .ref (ad X 10)), (2, .int v2), (3, .int v3), (4, .int v4), (6, .int v6)] dX5_merge_79 4 rfl rfl (Nat.le_of_ble_eq_true rfl) rfl ?_
  refine g_weak (lv1 := [(0, .ref (ad X 10)), (2, .int v2), (3, .int v3), (4, .int v4), (5, .int (v5 + 1)), (6, .int v6)]) [1, 2, 3, 4, 0, 5] rfl ?_
  exact s_X5_merge_b82 C v2 v3 v4 (v5 + 1) v6 hrec9  S1 h
set_option maxRecDepth 100000 in
set_option maxHeartbeats 4000000 in
theorem s_X5_merge_b45 {X : MC} (C : Cx X cX5_merge RX5 wsX5_merge 7 rmX5_merge none) {rec9 : Int32 × Int32 × Int32 × St → Option (Unit × St)} (v2 : Int32) (v3 : Int32) (v4 : Int32) (v5 : Int32) (v6 : Int32) (hrec9 : ∀ (s : Int32 × Int32 × Int32 × St) (r : Unit × St), rec9 s = some r → G X (QM mkV X r) s.2.2.2 9 [(0, .ref (ad X 10)), (2, .int v2), (3, .int v3), (4, .int (s.1)), (5, .int (s.2.1)), (6, .int (s.2.2.1))] []) (S : St) {r0 : Unit × St} (h : f_X5_merge_b45 rec9 v2 v3 v4 v5 v6 S = some r0) : G X (QM mkV X r0) S 45 [(0, .ref (ad X 10)), (2, .int v2), (3, .int v3), (4, .int v4), (5, .int v5), (6, .int v6)] [] := by
  unfold f_X5_merge_b45 at h
  refine g_aload_n (pc := 45) C dX5_merge_45 rfl 0 rfl ?_
  refine g_get (pc := 46) C 10 (w_10 _ _) rfl 1 (Nat.le_of_ble_eq_true rfl) in_X5_X5_merge k17_X5_merge rfl dX5_merge_46 ?_
  refine g_iload (pc := 49) C dX5_merge_49 5 rfl ?_
  refine g_aload_n (pc := 51) C dX5_merge_51 rfl 0 rfl ?_
  refine g_get (pc := 52) C 10 (w_10 _ _) rfl 0 (Nat.le_of_ble_eq_true rfl) in_X5_X5_merge k11_X5_merge rfl dX5_merge_52 ?_
  refine g_iload (pc := 55) C dX5_merge_55 3 rfl ?_
  refine g_lald (pc := 57) C _ h dX5_merge_57 (fun h => ?_)
  refine g_last (pc := 58) C _ h dX5_merge_58 (fun S2 h => ?_)
  refine g_iinc (pc := 59) (v := v4 + 1) C [(4, .int (v4 + 1)), (0, .ref (ad X 10)), (2, .int v2), (3, .int v3), (5, .int v5), (6, .int v6)] dX5_merge_59 3 rfl rfl (Nat.le_of_ble_eq_true rfl) rfl ?_
  refine g_goto (pc := 62) (tgt := 82) C dX5_merge_62 (by decide) ?_
  refine g_weak (lv1 := [(0, .ref (ad X 10)), (2, .int v2), (3, .int v3), (4, .int (v4 + 1)), (5, .int v5), (6, .int v6)]) [1, 2, 3, 0, 4, 5] rfl ?_
  exact s_X5_merge_b82 C v2 v3 (v4 + 1) v5 v6 hrec9  S2 h
set_option maxRecDepth 100000 in
set_option maxHeartbeats 4000000 in
theorem s_X5_merge_b9 {X : MC} (C : Cx X cX5_merge RX5 wsX5_merge 7 rmX5_merge none) {rec9 : Int32 × Int32 × Int32 × St → Option (Unit × St)} (v2 : Int32) (v3 : Int32) (v4 : Int32) (v5 : Int32) (v6 : Int32) (hrec9 : ∀ (s : Int32 × Int32 × Int32 × St) (r : Unit × St), rec9 s = some r → G X (QM mkV X r) s.2.2.2 9 [(0, .ref (ad X 10)), (2, .int v2), (3, .int v3), (4, .int (s.1)), (5, .int (s.2.1)), (6, .int (s.2.2.1))] []) (S : St) {r0 : Unit × St} (h : f_X5_merge_b9 rec9 v2 v3 v4 v5 v6 S = some r0) : G X (QM mkV X r0) S 9 [(0, .ref (ad X 10)), (2, .int v2), (3, .int v3), (4, .int v4), (5, .int v5), (6, .int v6)] [] := by
  unfold f_X5_merge_b9 at h
  refine g_iload (pc := 9) C dX5_merge_9 5 rfl ?_
  refine g_iload_n (pc := 11) C dX5_merge_11 rfl 2 rfl ?_
  refine g_icmp_ge (pc := 12) (tgt := 88) C h dX5_merge_12 (by decide) (fun h => ?_) (fun h => ?_)
  · exact g_vret (pc := 88) C h dX5_merge_88
  · refine g_iload (pc := 15) C dX5_merge_15 3 rfl ?_
    refine g_iload_n (pc := 17) C dX5_merge_17 rfl 1 rfl ?_
    refine g_icmp_ge (pc := 18) (tgt := 65) C h dX5_merge_18 (by decide) (fun h => ?_) (fun h => ?_)
    · refine g_weak (lv1 := [(0, .ref (ad X 10)), (2, .int v2), (3, .int v3), (4, .int v4), (5, .int v5), (6, .int v6)]) [0, 1, 2, 3, 4, 5] rfl ?_
      exact s_X5_merge_b65 C v2 v3 v4 v5 v6 hrec9  S h
    · refine g_iload (pc := 21) C dX5_merge_21 4 rfl ?_
      refine g_iload_n (pc := 23) C dX5_merge_23 rfl 2 rfl ?_
      refine g_icmp_ge (pc := 24) (tgt := 45) C h dX5_merge_24 (by decide) (fun h => ?_) (fun h => ?_)
      · refine g_weak (lv1 := [(0, .ref (ad X 10)), (2, .int v2), (3, .int v3), (4, .int v4), (5, .int v5), (6, .int v6)]) [0, 1, 2, 3, 4, 5] rfl ?_
        exact s_X5_merge_b45 C v2 v3 v4 v5 v6 hrec9  S h
      · refine g_aload_n (pc := 27) C dX5_merge_27 rfl 0 rfl ?_
        refine g_get (pc := 28) C 10 (w_10 _ _) rfl 0 (Nat.le_of_ble_eq_true rfl) in_X5_X5_merge k11_X5_merge rfl dX5_merge_28 ?_
        refine g_iload (pc := 31) C dX5_merge_31 3 rfl ?_
        refine g_lald (pc := 33) C _ h dX5_merge_33 (fun h => ?_)
        refine g_aload_n (pc := 34) C dX5_merge_34 rfl 0 rfl ?_
        refine g_get (pc := 35) C 10 (w_10 _ _) rfl 0 (Nat.le_of_ble_eq_true rfl) in_X5_X5_merge k11_X5_merge rfl dX5_merge_35 ?_
        refine g_iload (pc := 38) C dX5_merge_38 4 rfl ?_
        refine g_lald (pc := 40) C _ h dX5_merge_40 (fun h => ?_)
        refine g_lcmp (pc := 41) C dX5_merge_41 ?_
        refine g_if_ge (pc := 42) (tgt := 65) C h dX5_merge_42 (by decide) (fun h => ?_) (fun h => ?_)
        · refine g_weak (lv1 := [(0, .ref (ad X 10)), (2, .int v2), (3, .int v3), (4, .int v4), (5, .int v5), (6, .int v6)]) [0, 1, 2, 3, 4, 5] rfl ?_
          exact s_X5_merge_b65 C v2 v3 v4 v5 v6 hrec9  S h
        · refine g_weak (lv1 := [(0, .ref (ad X 10)), (2, .int v2), (3, .int v3), (4, .int v4), (5, .int v5), (6, .int v6)]) [0, 1, 2, 3, 4, 5] rfl ?_
          exact s_X5_merge_b45 C v2 v3 v4 v5 v6 hrec9  S h
set_option maxRecDepth 100000 in
set_option maxHeartbeats 4000000 in
theorem s_X5_merge_l9 {X : MC} (C : Cx X cX5_merge RX5 wsX5_merge 7 rmX5_merge none) (v2 : Int32) (v3 : Int32) : ∀ (n : Nat) (s : Int32 × Int32 × Int32 × St) (r : Unit × St), f_X5_merge_l9 v2 v3 n s = some r → G X (QM mkV X r) s.2.2.2 9 [(0, .ref (ad X 10)), (2, .int v2), (3, .int v3), (4, .int (s.1)), (5, .int (s.2.1)), (6, .int (s.2.2.1))] [] :=
  loop_sound (fun rec9 hrec9 s r h => s_X5_merge_b9 C v2 v3 s.1 s.2.1 s.2.2.1 hrec9 s.2.2.2 h)
set_option maxRecDepth 100000 in
set_option maxHeartbeats 4000000 in
theorem s_X5_merge_b0 {X : MC} (C : Cx X cX5_merge RX5 wsX5_merge 7 rmX5_merge none) (a1 : Int32) (a2 : Int32) (a3 : Int32) (S : St) {r0 : Unit × St} (h : f_X5_merge_b0 a1 a2 a3 S = some r0) : G X (QM mkV X r0) S 0 [(0, .ref (ad X 10)), (1, .int a1), (2, .int a2), (3, .int a3)] [] := by
  unfold f_X5_merge_b0 at h
  refine g_iload_n (pc := 0) C dX5_merge_0 rfl 1 rfl ?_
  refine g_istore (pc := 1) C [(4, .int a1), (0, .ref (ad X 10)), (1, .int a1), (2, .int a2), (3, .int a3)] dX5_merge_1 (Nat.le_of_ble_eq_true rfl) rfl ?_
  refine g_iload_n (pc := 3) C dX5_merge_3 rfl 3 rfl ?_
  refine g_istore (pc := 4) C [(5, .int a2), (4, .int a1), (0, .ref (ad X 10)), (1, .int a1), (2, .int a2), (3, .int a3)] dX5_merge_4 (Nat.le_of_ble_eq_true rfl) rfl ?_
  refine g_iload_n (pc := 6) C dX5_merge_6 rfl 3 rfl ?_
  refine g_istore (pc := 7) C [(6, .int a1), (5, .int a2), (4, .int a1), (0, .ref (ad X 10)), (1, .int a1), (2, .int a2), (3, .int a3)] dX5_merge_7 (Nat.le_of_ble_eq_true rfl) rfl ?_
  refine g_weak (lv1 := [(0, .ref (ad X 10)), (2, .int a2), (3, .int a3), (4, .int a1), (5, .int a2), (6, .int a1)]) [3, 5, 6, 2, 1, 0] rfl ?_
  exact s_X5_merge_l9 C a2 a3 _ (a1, a2, a1, S) _ h
theorem c_X5_merge (l : Launch) (b : Bw) (a1 : Int32) (a2 : Int32) (a3 : Int32) (S : St) : Ct l b yX5_merge wsX5_merge rmX5_merge [.ref (bad b 10), .int a1, .int a2, .int a3] S mkV (f_X5_merge a1 a2 a3 S) := Ct.of (by decide +kernel) rfl (Nat.le_of_ble_eq_true rfl) (fun X C hl hb r h => by
  subst hl; subst hb
  exact s_X5_merge_b0 C a1 a2 a3 S h)
/-! StyleRows$Order.keyOf(LStyleRows$Events;I)J -/
set_option maxRecDepth 100000 in
set_option maxHeartbeats 4000000 in
theorem s_X5_keyOf_b0 {X : MC} (C : Cx X cX5_keyOf RX5 wsX5_keyOf 4 rmX5_keyOf (some .long)) (a2 : Int32) (S : St) {r0 : Int64 × St} (h : f_X5_keyOf_b0 a2 S = some r0) : G X (QM mkL X r0) S 0 [(0, .ref (ad X 9)), (1, .int a2)] [] := by
  unfold f_X5_keyOf_b0 at h
  refine g_aload_n (pc := 0) C dX5_keyOf_0 rfl 0 rfl ?_
  refine g_getN (pc := 1) C 9 (w_9 _ _) rfl 0 (Nat.le_of_ble_eq_true rfl) in_X1_X5_keyOf nw_X5_38 rfl dX5_keyOf_1 ?_
  refine g_iconst (pc := 4) (v := 0) C dX5_keyOf_4 (by decide) ?_
  refine g_aaldc (pc := 5) (i := 0) C 31 32 (w_31 _ _) rfl rfl dX5_keyOf_5 ?_
  refine g_iload_n (pc := 6) C dX5_keyOf_6 rfl 1 rfl ?_
  refine g_iald (pc := 7) C 32 (w_32 _ _) h dX5_keyOf_7 (fun h => ?_)
  refine g_i2l (pc := 8) C dX5_keyOf_8 ?_
  refine g_letl h (fun y1 h => ?_)
  refine g_lstore_n (pc := 9) C [(2, .long y1), (0, .ref (ad X 9)), (1, .int a2)] dX5_keyOf_9 rfl (Nat.le_of_ble_eq_true rfl) rfl ?_
  refine g_lload_n (pc := 10) C dX5_keyOf_10 rfl 0 rfl ?_
  refine g_ldc2 (pc := 11) (v := 4) C k42_X5_keyOf dX5_keyOf_11 ?_
  refine g_lmul (pc := 14) C dX5_keyOf_14 ?_
  refine g_aload_n (pc := 15) C dX5_keyOf_15 rfl 1 rfl ?_
  refine g_getN (pc := 16) C 9 (w_9 _ _) rfl 0 (Nat.le_of_ble_eq_true rfl) in_X1_X5_keyOf nw_X5_38 rfl dX5_keyOf_16 ?_
  refine g_bipush (pc := 19) (v := 6) C dX5_keyOf_19 (by decide) ?_
  refine g_aaldc (pc := 21) (i := 6) C 31 38 (w_31 _ _) rfl rfl dX5_keyOf_21 ?_
  refine g_iload_n (pc := 22) C dX5_keyOf_22 rfl 2 rfl ?_
  refine g_iald (pc := 23) C 38 (w_38 _ _) h dX5_keyOf_23 (fun h => ?_)
  refine g_i2l (pc := 24) C dX5_keyOf_24 ?_
  refine g_ladd (pc := 25) C dX5_keyOf_25 ?_
  refine g_letl h (fun y2 h => ?_)
  refine g_lstore_n (pc := 26) C [(2, .long y2), (0, .ref (ad X 9)), (1, .int a2)] dX5_keyOf_26 rfl (Nat.le_of_ble_eq_true rfl) rfl ?_
  refine g_lload_n (pc := 27) C dX5_keyOf_27 rfl 0 rfl ?_
  refine g_ldc2 (pc := 28) (v := 128) C k44_X5_keyOf dX5_keyOf_28 ?_
  refine g_lmul (pc := 31) C dX5_keyOf_31 ?_
  refine g_aload_n (pc := 32) C dX5_keyOf_32 rfl 1 rfl ?_
  refine g_getN (pc := 33) C 9 (w_9 _ _) rfl 0 (Nat.le_of_ble_eq_true rfl) in_X1_X5_keyOf nw_X5_38 rfl dX5_keyOf_33 ?_
  refine g_iconst (pc := 36) (v := 2) C dX5_keyOf_36 (by decide) ?_
  refine g_aaldc (pc := 37) (i := 2) C 31 34 (w_31 _ _) rfl rfl dX5_keyOf_37 ?_
  refine g_iload_n (pc := 38) C dX5_keyOf_38 rfl 2 rfl ?_
  refine g_iald (pc := 39) C 34 (w_34 _ _) h dX5_keyOf_39 (fun h => ?_)
  refine g_i2l (pc := 40) C dX5_keyOf_40 ?_
  refine g_ladd (pc := 41) C dX5_keyOf_41 ?_
  refine g_letl h (fun y3 h => ?_)
  refine g_lstore_n (pc := 42) C [(2, .long y3), (0, .ref (ad X 9)), (1, .int a2)] dX5_keyOf_42 rfl (Nat.le_of_ble_eq_true rfl) rfl ?_
  refine g_lload_n (pc := 43) C dX5_keyOf_43 rfl 0 rfl ?_
  refine g_ldc2 (pc := 44) (v := 400) C k46_X5_keyOf dX5_keyOf_44 ?_
  refine g_lmul (pc := 47) C dX5_keyOf_47 ?_
  refine g_iload_n (pc := 48) C dX5_keyOf_48 rfl 2 rfl ?_
  refine g_i2l (pc := 49) C dX5_keyOf_49 ?_
  refine g_ladd (pc := 50) C dX5_keyOf_50 ?_
  exact g_lret (pc := 51) C h dX5_keyOf_51
theorem c_X5_keyOf (l : Launch) (b : Bw) (a2 : Int32) (S : St) : Ct l b yX5_keyOf wsX5_keyOf rmX5_keyOf [.ref (bad b 9), .int a2] S mkL (f_X5_keyOf a2 S) := Ct.of (by decide +kernel) rfl (Nat.le_of_ble_eq_true rfl) (fun X C hl hb r h => by
  subst hl; subst hb
  exact s_X5_keyOf_b0 C a2 S h)
/-! StyleRows$Order.sort(LStyleRows$Events;)V -/
set_option maxRecDepth 100000 in
set_option maxHeartbeats 4000000 in
theorem s_X5_sort_b39 {X : MC} (C : Cx X cX5_sort RX5 wsX5_sort 5 rmX5_sort none) {rec31 : Int32 × St → Option (Unit × St)} {rec39 : Int32 × St → Option (Unit × St)} (v2 : Int32) (v3 : Int32) (v4 : Int32) (hrec31 : ∀ (s : Int32 × St) (r : Unit × St), rec31 s = some r → G X (QM mkV X r) s.2 31 [(0, .ref (ad X 10)), (2, .int v2), (3, .int (s.1))] []) (hrec39 : ∀ (s : Int32 × St) (r : Unit × St), rec39 s = some r → G X (QM mkV X r) s.2 39 [(0, .ref (ad X 10)), (2, .int v2), (3, .int v3), (4, .int (s.1))] []) (S : St) {r0 : Unit × St} (h : f_X5_sort_b39 rec31 rec39 v2 v3 v4 S = some r0) : G X (QM mkV X r0) S 39 [(0, .ref (ad X 10)), (2, .int v2), (3, .int v3), (4, .int v4)] [] := by
  unfold f_X5_sort_b39 at h
  refine g_iload (pc := 39) C dX5_sort_39 3 rfl ?_
  refine g_iload_n (pc := 41) C dX5_sort_41 rfl 1 rfl ?_
  refine g_icmp_ge (pc := 42) (tgt := 80) C h dX5_sort_42 (by decide) (fun h => ?_) (fun h => ?_)
  · refine g_aload_n (pc := 80) C dX5_sort_80 rfl 0 rfl ?_
    refine g_get (pc := 81) C 10 (w_10 _ _) rfl 1 (Nat.le_of_ble_eq_true rfl) in_X5_X5_sort k17_X5_sort rfl dX5_sort_81 ?_
    refine g_letr h (fun n2 h => ?_)
    refine g_astore (pc := 84) C [(4, .ref (ad X n2)), (0, .ref (ad X 10)), (2, .int v2), (3, .int v3)] dX5_sort_84 (Nat.le_of_ble_eq_true rfl) rfl ?_
    refine g_aload_n (pc := 86) C dX5_sort_86 rfl 1 rfl ?_
    refine g_aload_n (pc := 87) C dX5_sort_87 rfl 1 rfl ?_
    refine g_get (pc := 88) C 10 (w_10 _ _) rfl 0 (Nat.le_of_ble_eq_true rfl) in_X5_X5_sort k11_X5_sort rfl dX5_sort_88 ?_
    refine g_put (pc := 91) C 10 (w_10 _ _) rfl 1 (Nat.le_of_ble_eq_true rfl) in_X5_X5_sort tyX5_ok nmX5 k17_X5_sort rfl rfl rfl (Nat.le_of_ble_eq_true rfl) (ws_10_1 _ _ _) dX5_sort_91 h (fun S3 h => ?_)
    refine g_aload_n (pc := 94) C dX5_sort_94 rfl 1 rfl ?_
    refine g_aload (pc := 95) C dX5_sort_95 0 rfl ?_
    refine g_put (pc := 97) C 10 (w_10 _ _) rfl 0 (Nat.le_of_ble_eq_true rfl) in_X5_X5_sort tyX5_ok nmX5 k11_X5_sort rfl rfl rfl (Nat.le_of_ble_eq_true rfl) (ws_10_0 _ _ _) dX5_sort_97 h (fun S4 h => ?_)
    refine g_iload_n (pc := 100) C dX5_sort_100 rfl 3 rfl ?_
    refine g_iconst (pc := 101) (v := 2) C dX5_sort_101 (by decide) ?_
    refine g_imul (pc := 102) C dX5_sort_102 ?_
    refine g_leti h (fun x5 h => ?_)
    refine g_istore_n (pc := 103) C [(3, .int x5), (4, .ref (ad X n2)), (0, .ref (ad X 10)), (2, .int v2)] dX5_sort_103 rfl (Nat.le_of_ble_eq_true rfl) rfl ?_
    refine g_goto (pc := 104) (tgt := 31) C dX5_sort_104 (by decide) ?_
    refine g_weak (lv1 := [(0, .ref (ad X 10)), (2, .int v2), (3, .int x5)]) [2, 3, 0] rfl ?_
    exact hrec31 (x5, S4) _ h
  · refine g_aload_n (pc := 45) C dX5_sort_45 rfl 0 rfl ?_
    refine g_iload (pc := 46) C dX5_sort_46 3 rfl ?_
    refine g_iload (pc := 48) C dX5_sort_48 3 rfl ?_
    refine g_iload_n (pc := 50) C dX5_sort_50 rfl 2 rfl ?_
    refine g_iadd (pc := 51) C dX5_sort_51 ?_
    refine g_iload_n (pc := 52) C dX5_sort_52 rfl 1 rfl ?_
    refine g_mmin (pc := 53) C k28_X5_sort kstmin_X5_sort kini_X5_sort kcomin_X5_sort (Nat.le_of_ble_eq_true rfl) (Nat.le_of_ble_eq_true rfl) dX5_sort_53 ?_
    refine g_iload (pc := 56) C dX5_sort_56 3 rfl ?_
    refine g_iconst (pc := 58) (v := 2) C dX5_sort_58 (by decide) ?_
    refine g_iload_n (pc := 59) C dX5_sort_59 rfl 2 rfl ?_
    refine g_imul (pc := 60) C dX5_sort_60 ?_
    refine g_iadd (pc := 61) C dX5_sort_61 ?_
    refine g_iload_n (pc := 62) C dX5_sort_62 rfl 1 rfl ?_
    refine g_mmin (pc := 63) C k28_X5_sort kstmin_X5_sort kini_X5_sort kcomin_X5_sort (Nat.le_of_ble_eq_true rfl) (Nat.le_of_ble_eq_true rfl) dX5_sort_63 ?_
    refine g_callV (pc := 66) C 10 (c_X5_merge (Xl X) (Xb X) v4 (imin (v4 + v3) v2) (imin (v4 + (2 * v3)) v2) S) gX5_sort_X5_merge rfl rfl rfl hd_X5_merge ⟨Nat.le_of_ble_eq_true rfl, Nat.le_of_ble_eq_true rfl⟩ (w_10 _ _) rfl rfl rfl (Nat.le_of_ble_eq_true rfl) dX5_sort_66 h (fun _u6 S6 h => ?_)
    change G X _ S6 69 [(0, .ref (ad X 10)), (2, .int v2), (3, .int v3), (4, .int v4)] []
    refine g_iload (pc := 69) C dX5_sort_69 3 rfl ?_
    refine g_iconst (pc := 71) (v := 2) C dX5_sort_71 (by decide) ?_
    refine g_iload_n (pc := 72) C dX5_sort_72 rfl 2 rfl ?_
    refine g_imul (pc := 73) C dX5_sort_73 ?_
    refine g_iadd (pc := 74) C dX5_sort_74 ?_
    refine g_leti h (fun x7 h => ?_)
    refine g_istore (pc := 75) C [(4, .int x7), (0, .ref (ad X 10)), (2, .int v2), (3, .int v3)] dX5_sort_75 (Nat.le_of_ble_eq_true rfl) rfl ?_
    refine g_goto (pc := 77) (tgt := 39) C dX5_sort_77 (by decide) ?_
    refine g_weak (lv1 := [(0, .ref (ad X 10)), (2, .int v2), (3, .int v3), (4, .int x7)]) [1, 2, 3, 0] rfl ?_
    exact hrec39 (x7, S6) _ h
set_option maxRecDepth 100000 in
set_option maxHeartbeats 4000000 in
theorem s_X5_sort_l39 {X : MC} (C : Cx X cX5_sort RX5 wsX5_sort 5 rmX5_sort none) {rec31 : Int32 × St → Option (Unit × St)} (v2 : Int32) (v3 : Int32) (hrec31 : ∀ (s : Int32 × St) (r : Unit × St), rec31 s = some r → G X (QM mkV X r) s.2 31 [(0, .ref (ad X 10)), (2, .int v2), (3, .int (s.1))] []) : ∀ (n : Nat) (s : Int32 × St) (r : Unit × St), f_X5_sort_l39 rec31 v2 v3 n s = some r → G X (QM mkV X r) s.2 39 [(0, .ref (ad X 10)), (2, .int v2), (3, .int v3), (4, .int (s.1))] [] :=
  loop_sound (fun rec39 hrec39 s r h => s_X5_sort_b39 C v2 v3 s.1 hrec31 hrec39 s.2 h)
set_option maxRecDepth 100000 in
set_option maxHeartbeats 4000000 in
theorem s_X5_sort_b31 {X : MC} (C : Cx X cX5_sort RX5 wsX5_sort 5 rmX5_sort none) {rec31 : Int32 × St → Option (Unit × St)} (v2 : Int32) (v3 : Int32) (hrec31 : ∀ (s : Int32 × St) (r : Unit × St), rec31 s = some r → G X (QM mkV X r) s.2 31 [(0, .ref (ad X 10)), (2, .int v2), (3, .int (s.1))] []) (S : St) {r0 : Unit × St} (h : f_X5_sort_b31 rec31 v2 v3 S = some r0) : G X (QM mkV X r0) S 31 [(0, .ref (ad X 10)), (2, .int v2), (3, .int v3)] [] := by
  unfold f_X5_sort_b31 at h
  refine g_iload_n (pc := 31) C dX5_sort_31 rfl 2 rfl ?_
  refine g_iload_n (pc := 32) C dX5_sort_32 rfl 1 rfl ?_
  refine g_icmp_ge (pc := 33) (tgt := 107) C h dX5_sort_33 (by decide) (fun h => ?_) (fun h => ?_)
  · exact g_vret (pc := 107) C h dX5_sort_107
  · refine g_iconst (pc := 36) (v := 0) C dX5_sort_36 (by decide) ?_
    refine g_istore (pc := 37) C [(4, .int 0), (0, .ref (ad X 10)), (2, .int v2), (3, .int v3)] dX5_sort_37 (Nat.le_of_ble_eq_true rfl) rfl ?_
    refine g_weak (lv1 := [(0, .ref (ad X 10)), (2, .int v2), (3, .int v3), (4, .int 0)]) [1, 2, 3, 0] rfl ?_
    exact s_X5_sort_l39 C v2 v3 hrec31 _ (0, S) _ h
set_option maxRecDepth 100000 in
set_option maxHeartbeats 4000000 in
theorem s_X5_sort_l31 {X : MC} (C : Cx X cX5_sort RX5 wsX5_sort 5 rmX5_sort none) (v2 : Int32) : ∀ (n : Nat) (s : Int32 × St) (r : Unit × St), f_X5_sort_l31 v2 n s = some r → G X (QM mkV X r) s.2 31 [(0, .ref (ad X 10)), (2, .int v2), (3, .int (s.1))] [] :=
  loop_sound (fun rec31 hrec31 s r h => s_X5_sort_b31 C v2 s.1 hrec31 s.2 h)
set_option maxRecDepth 100000 in
set_option maxHeartbeats 4000000 in
theorem s_X5_sort_b7 {X : MC} (C : Cx X cX5_sort RX5 wsX5_sort 5 rmX5_sort none) {rec7 : Int32 × St → Option (Unit × St)} (v2 : Int32) (v3 : Int32) (hrec7 : ∀ (s : Int32 × St) (r : Unit × St), rec7 s = some r → G X (QM mkV X r) s.2 7 [(0, .ref (ad X 10)), (1, .ref (ad X 9)), (2, .int v2), (3, .int (s.1))] []) (S : St) {r0 : Unit × St} (h : f_X5_sort_b7 rec7 v2 v3 S = some r0) : G X (QM mkV X r0) S 7 [(0, .ref (ad X 10)), (1, .ref (ad X 9)), (2, .int v2), (3, .int v3)] [] := by
  unfold f_X5_sort_b7 at h
  refine g_iload_n (pc := 7) C dX5_sort_7 rfl 3 rfl ?_
  refine g_iload_n (pc := 8) C dX5_sort_8 rfl 2 rfl ?_
  refine g_icmp_ge (pc := 9) (tgt := 29) C h dX5_sort_9 (by decide) (fun h => ?_) (fun h => ?_)
  · refine g_iconst (pc := 29) (v := 1) C dX5_sort_29 (by decide) ?_
    refine g_istore_n (pc := 30) C [(3, .int 1), (0, .ref (ad X 10)), (1, .ref (ad X 9)), (2, .int v2)] dX5_sort_30 rfl (Nat.le_of_ble_eq_true rfl) rfl ?_
    refine g_weak (lv1 := [(0, .ref (ad X 10)), (2, .int v2), (3, .int 1)]) [1, 3, 0] rfl ?_
    exact s_X5_sort_l31 C v2 _ (1, S) _ h
  · refine g_aload_n (pc := 12) C dX5_sort_12 rfl 0 rfl ?_
    refine g_get (pc := 13) C 10 (w_10 _ _) rfl 0 (Nat.le_of_ble_eq_true rfl) in_X5_X5_sort k11_X5_sort rfl dX5_sort_13 ?_
    refine g_iload_n (pc := 16) C dX5_sort_16 rfl 3 rfl ?_
    refine g_aload_n (pc := 17) C dX5_sort_17 rfl 1 rfl ?_
    refine g_iload_n (pc := 18) C dX5_sort_18 rfl 3 rfl ?_
    refine g_callS (pc := 19) C (c_X5_keyOf (Xl X) (Xb X) v3 S) gX5_sort_X5_keyOf rfl rfl rfl hd_X5_keyOf ⟨Nat.le_of_ble_eq_true rfl, Nat.le_of_ble_eq_true rfl⟩ rfl rfl (Nat.le_of_ble_eq_true rfl) dX5_sort_19 h (fun r9 S8 h => ?_)
    change G X _ S8 22 [(0, .ref (ad X 10)), (1, .ref (ad X 9)), (2, .int v2), (3, .int v3)] [.long r9, .int v3, .ref (ad X (gR S 0))]
    refine g_last (pc := 22) C _ h dX5_sort_22 (fun S10 h => ?_)
    refine g_iinc (pc := 23) (v := v3 + 1) C [(3, .int (v3 + 1)), (0, .ref (ad X 10)), (1, .ref (ad X 9)), (2, .int v2)] dX5_sort_23 3 rfl rfl (Nat.le_of_ble_eq_true rfl) rfl ?_
    refine g_goto (pc := 26) (tgt := 7) C dX5_sort_26 (by decide) ?_
    refine g_weak (lv1 := [(0, .ref (ad X 10)), (1, .ref (ad X 9)), (2, .int v2), (3, .int (v3 + 1))]) [1, 2, 3, 0] rfl ?_
    exact hrec7 (v3 + 1, S10) _ h
set_option maxRecDepth 100000 in
set_option maxHeartbeats 4000000 in
theorem s_X5_sort_l7 {X : MC} (C : Cx X cX5_sort RX5 wsX5_sort 5 rmX5_sort none) (v2 : Int32) : ∀ (n : Nat) (s : Int32 × St) (r : Unit × St), f_X5_sort_l7 v2 n s = some r → G X (QM mkV X r) s.2 7 [(0, .ref (ad X 10)), (1, .ref (ad X 9)), (2, .int v2), (3, .int (s.1))] [] :=
  loop_sound (fun rec7 hrec7 s r h => s_X5_sort_b7 C v2 s.1 hrec7 s.2 h)
set_option maxRecDepth 100000 in
set_option maxHeartbeats 4000000 in
theorem s_X5_sort_b0 {X : MC} (C : Cx X cX5_sort RX5 wsX5_sort 5 rmX5_sort none) (S : St) {r0 : Unit × St} (h : f_X5_sort_b0 S = some r0) : G X (QM mkV X r0) S 0 [(0, .ref (ad X 10)), (1, .ref (ad X 9))] [] := by
  unfold f_X5_sort_b0 at h
  refine g_aload_n (pc := 0) C dX5_sort_0 rfl 1 rfl ?_
  refine g_getN (pc := 1) C 9 (w_9 _ _) rfl 1 (Nat.le_of_ble_eq_true rfl) in_X1_X5_sort nw_X5_20 rfl dX5_sort_1 ?_
  refine g_leti h (fun x1 h => ?_)
  refine g_istore_n (pc := 4) C [(2, .int x1), (0, .ref (ad X 10)), (1, .ref (ad X 9))] dX5_sort_4 rfl (Nat.le_of_ble_eq_true rfl) rfl ?_
  refine g_iconst (pc := 5) (v := 0) C dX5_sort_5 (by decide) ?_
  refine g_istore_n (pc := 6) C [(3, .int 0), (2, .int x1), (0, .ref (ad X 10)), (1, .ref (ad X 9))] dX5_sort_6 rfl (Nat.le_of_ble_eq_true rfl) rfl ?_
  refine g_weak (lv1 := [(0, .ref (ad X 10)), (1, .ref (ad X 9)), (2, .int x1), (3, .int 0)]) [2, 3, 1, 0] rfl ?_
  exact s_X5_sort_l7 C x1 _ (0, S) _ h
theorem c_X5_sort (l : Launch) (b : Bw) (S : St) : Ct l b yX5_sort wsX5_sort rmX5_sort [.ref (bad b 10), .ref (bad b 9)] S mkV (f_X5_sort S) := Ct.of (by decide +kernel) rfl (Nat.le_of_ble_eq_true rfl) (fun X C hl hb r h => by
  subst hl; subst hb
  exact s_X5_sort_b0 C S h)
/-! StyleRows$Order.partAt(I)I -/
set_option maxRecDepth 100000 in
set_option maxHeartbeats 4000000 in
theorem s_X5_partAt_b0 {X : MC} (C : Cx X cX5_partAt RX5 wsX5_partAt 2 rmX5_partAt (some .int)) (a1 : Int32) (S : St) {r0 : Int32 × St} (h : f_X5_partAt_b0 a1 S = some r0) : G X (QM mkI X r0) S 0 [(0, .ref (ad X 10)), (1, .int a1)] [] := by
  unfold f_X5_partAt_b0 at h
  refine g_aload_n (pc := 0) C dX5_partAt_0 rfl 0 rfl ?_
  refine g_get (pc := 1) C 10 (w_10 _ _) rfl 0 (Nat.le_of_ble_eq_true rfl) in_X5_X5_partAt k11_X5_partAt rfl dX5_partAt_1 ?_
  refine g_iload_n (pc := 4) C dX5_partAt_4 rfl 1 rfl ?_
  refine g_lald (pc := 5) C _ h dX5_partAt_5 (fun h => ?_)
  refine g_sipush (pc := 6) (v := 400) C dX5_partAt_6 (by decide) ?_
  refine g_callS (pc := 9) C (c_J9_floorMod_1978a (Xl X) (Xb X) (rdL S (gR S 0) a1) 400 S) gX5_partAt_J9_floorMod_1978a rfl rfl rfl hd_J9_floorMod_1978a ⟨Nat.le_of_ble_eq_true rfl, Nat.le_of_ble_eq_true rfl⟩ rfl rfl (Nat.le_of_ble_eq_true rfl) dX5_partAt_9 h (fun r2 S1 h => ?_)
  change G X _ S1 12 [(0, .ref (ad X 10)), (1, .int a1)] [.int r2]
  exact g_iret (pc := 12) C h dX5_partAt_12
theorem c_X5_partAt (l : Launch) (b : Bw) (a1 : Int32) (S : St) : Ct l b yX5_partAt wsX5_partAt rmX5_partAt [.ref (bad b 10), .int a1] S mkI (f_X5_partAt a1 S) := Ct.of (by decide +kernel) rfl (Nat.le_of_ble_eq_true rfl) (fun X C hl hb r h => by
  subst hl; subst hb
  exact s_X5_partAt_b0 C a1 S h)
/-! StyleRows$Events.takeInOrder(LStyleRows$Events;LStyleRows$Order;)V -/
set_option maxRecDepth 100000 in
set_option maxHeartbeats 4000000 in
theorem s_X1_takeInOrder_b28 {X : MC} (C : Cx X cX1_takeInOrder RX1 wsX1_takeInOrder 6 rmX1_takeInOrder none) {rec10 : Int32 × St → Option (Unit × St)} {rec28 : Int32 × St → Option (Unit × St)} (v3 : Int32) (v4 : Int32) (v5 : Int32) (hrec10 : ∀ (s : Int32 × St) (r : Unit × St), rec10 s = some r → G X (QM mkV X r) s.2 10 [(0, .ref (ad X 11)), (1, .ref (ad X 9)), (2, .ref (ad X 10)), (3, .int (s.1))] []) (hrec28 : ∀ (s : Int32 × St) (r : Unit × St), rec28 s = some r → G X (QM mkV X r) s.2 28 [(0, .ref (ad X 11)), (1, .ref (ad X 9)), (2, .ref (ad X 10)), (3, .int v3), (4, .int v4), (5, .int (s.1))] []) (S : St) {r0 : Unit × St} (h : f_X1_takeInOrder_b28 rec10 rec28 v3 v4 v5 S = some r0) : G X (QM mkV X r0) S 28 [(0, .ref (ad X 11)), (1, .ref (ad X 9)), (2, .ref (ad X 10)), (3, .int v3), (4, .int v4), (5, .int v5)] [] := by
  unfold f_X1_takeInOrder_b28 at h
  refine g_iload (pc := 28) C dX1_takeInOrder_28 5 rfl ?_
  refine g_bipush (pc := 30) (v := 7) C dX1_takeInOrder_30 (by decide) ?_
  refine g_icmp_ge (pc := 32) (tgt := 60) C h dX1_takeInOrder_32 (by decide) (fun h => ?_) (fun h => ?_)
  · refine g_iinc (pc := 60) (v := v3 + 1) C [(3, .int (v3 + 1)), (0, .ref (ad X 11)), (1, .ref (ad X 9)), (2, .ref (ad X 10)), (4, .int v4), (5, .int v5)] dX1_takeInOrder_60 3 rfl rfl (Nat.le_of_ble_eq_true rfl) rfl ?_
    refine g_goto (pc := 63) (tgt := 10) C dX1_takeInOrder_63 (by decide) ?_
    refine g_weak (lv1 := [(0, .ref (ad X 11)), (1, .ref (ad X 9)), (2, .ref (ad X 10)), (3, .int (v3 + 1))]) [1, 2, 3, 0] rfl ?_
    exact hrec10 (v3 + 1, S) _ h
  · refine g_aload_n (pc := 35) C dX1_takeInOrder_35 rfl 0 rfl ?_
    refine g_get (pc := 36) C 11 (w_11 _ _) rfl 0 (Nat.le_of_ble_eq_true rfl) in_X1_X1_takeInOrder k13_X1_takeInOrder rfl dX1_takeInOrder_36 ?_
    refine g_iload (pc := 39) C dX1_takeInOrder_39 5 rfl ?_
    refine g_aald (pc := 41) C 41 _ (w_41 _ _) rfl h dX1_takeInOrder_41 (fun hn4 h => ?_)
    refine g_iload_n (pc := 42) C dX1_takeInOrder_42 rfl 3 rfl ?_
    refine g_aload_n (pc := 43) C dX1_takeInOrder_43 rfl 1 rfl ?_
    refine g_get (pc := 44) C 9 (w_9 _ _) rfl 0 (Nat.le_of_ble_eq_true rfl) in_X1_X1_takeInOrder k13_X1_takeInOrder rfl dX1_takeInOrder_44 ?_
    refine g_iload (pc := 47) C dX1_takeInOrder_47 5 rfl ?_
    refine g_aald (pc := 49) C 31 _ (w_31 _ _) rfl h dX1_takeInOrder_49 (fun hn5 h => ?_)
    refine g_iload (pc := 50) C dX1_takeInOrder_50 4 rfl ?_
    refine g_iald (pc := 52) C _ (wg_31 _ _ _ hn5) h dX1_takeInOrder_52 (fun h => ?_)
    refine g_iast (pc := 53) C _ (wg_41 _ _ _ hn4) (wgs_41 _ _ _ hn4) h dX1_takeInOrder_53 (fun S6 h => ?_)
    refine g_iinc (pc := 54) (v := v5 + 1) C [(5, .int (v5 + 1)), (0, .ref (ad X 11)), (1, .ref (ad X 9)), (2, .ref (ad X 10)), (3, .int v3), (4, .int v4)] dX1_takeInOrder_54 5 rfl rfl (Nat.le_of_ble_eq_true rfl) rfl ?_
    refine g_goto (pc := 57) (tgt := 28) C dX1_takeInOrder_57 (by decide) ?_
    refine g_weak (lv1 := [(0, .ref (ad X 11)), (1, .ref (ad X 9)), (2, .ref (ad X 10)), (3, .int v3), (4, .int v4), (5, .int (v5 + 1))]) [1, 2, 3, 4, 5, 0] rfl ?_
    exact hrec28 (v5 + 1, S6) _ h
set_option maxRecDepth 100000 in
set_option maxHeartbeats 4000000 in
theorem s_X1_takeInOrder_l28 {X : MC} (C : Cx X cX1_takeInOrder RX1 wsX1_takeInOrder 6 rmX1_takeInOrder none) {rec10 : Int32 × St → Option (Unit × St)} (v3 : Int32) (v4 : Int32) (hrec10 : ∀ (s : Int32 × St) (r : Unit × St), rec10 s = some r → G X (QM mkV X r) s.2 10 [(0, .ref (ad X 11)), (1, .ref (ad X 9)), (2, .ref (ad X 10)), (3, .int (s.1))] []) : ∀ (n : Nat) (s : Int32 × St) (r : Unit × St), f_X1_takeInOrder_l28 rec10 v3 v4 n s = some r → G X (QM mkV X r) s.2 28 [(0, .ref (ad X 11)), (1, .ref (ad X 9)), (2, .ref (ad X 10)), (3, .int v3), (4, .int v4), (5, .int (s.1))] [] :=
  loop_sound (fun rec28 hrec28 s r h => s_X1_takeInOrder_b28 C v3 v4 s.1 hrec10 hrec28 s.2 h)
set_option maxRecDepth 100000 in
set_option maxHeartbeats 4000000 in
theorem s_X1_takeInOrder_b10 {X : MC} (C : Cx X cX1_takeInOrder RX1 wsX1_takeInOrder 6 rmX1_takeInOrder none) {rec10 : Int32 × St → Option (Unit × St)} (v3 : Int32) (hrec10 : ∀ (s : Int32 × St) (r : Unit × St), rec10 s = some r → G X (QM mkV X r) s.2 10 [(0, .ref (ad X 11)), (1, .ref (ad X 9)), (2, .ref (ad X 10)), (3, .int (s.1))] []) (S : St) {r0 : Unit × St} (h : f_X1_takeInOrder_b10 rec10 v3 S = some r0) : G X (QM mkV X r0) S 10 [(0, .ref (ad X 11)), (1, .ref (ad X 9)), (2, .ref (ad X 10)), (3, .int v3)] [] := by
  unfold f_X1_takeInOrder_b10 at h
  refine g_iload_n (pc := 10) C dX1_takeInOrder_10 rfl 3 rfl ?_
  refine g_aload_n (pc := 11) C dX1_takeInOrder_11 rfl 0 rfl ?_
  refine g_get (pc := 12) C 11 (w_11 _ _) rfl 1 (Nat.le_of_ble_eq_true rfl) in_X1_X1_takeInOrder k16_X1_takeInOrder rfl dX1_takeInOrder_12 ?_
  refine g_icmp_ge (pc := 15) (tgt := 66) C h dX1_takeInOrder_15 (by decide) (fun h => ?_) (fun h => ?_)
  · exact g_vret (pc := 66) C h dX1_takeInOrder_66
  · refine g_aload_n (pc := 18) C dX1_takeInOrder_18 rfl 2 rfl ?_
    refine g_iload_n (pc := 19) C dX1_takeInOrder_19 rfl 3 rfl ?_
    refine g_callV (pc := 20) C 10 (c_X5_partAt (Xl X) (Xb X) v3 S) gX1_takeInOrder_X5_partAt rfl rfl rfl hd_X5_partAt ⟨Nat.le_of_ble_eq_true rfl, Nat.le_of_ble_eq_true rfl⟩ (w_10 _ _) rfl rfl rfl (Nat.le_of_ble_eq_true rfl) dX1_takeInOrder_20 h (fun r3 S2 h => ?_)
    change G X _ S2 23 [(0, .ref (ad X 11)), (1, .ref (ad X 9)), (2, .ref (ad X 10)), (3, .int v3)] [.int r3]
    refine g_istore (pc := 23) C [(4, .int r3), (0, .ref (ad X 11)), (1, .ref (ad X 9)), (2, .ref (ad X 10)), (3, .int v3)] dX1_takeInOrder_23 (Nat.le_of_ble_eq_true rfl) rfl ?_
    refine g_iconst (pc := 25) (v := 0) C dX1_takeInOrder_25 (by decide) ?_
    refine g_istore (pc := 26) C [(5, .int 0), (4, .int r3), (0, .ref (ad X 11)), (1, .ref (ad X 9)), (2, .ref (ad X 10)), (3, .int v3)] dX1_takeInOrder_26 (Nat.le_of_ble_eq_true rfl) rfl ?_
    refine g_weak (lv1 := [(0, .ref (ad X 11)), (1, .ref (ad X 9)), (2, .ref (ad X 10)), (3, .int v3), (4, .int r3), (5, .int 0)]) [2, 3, 4, 5, 1, 0] rfl ?_
    exact s_X1_takeInOrder_l28 C v3 r3 hrec10 _ (0, S2) _ h
set_option maxRecDepth 100000 in
set_option maxHeartbeats 4000000 in
theorem s_X1_takeInOrder_l10 {X : MC} (C : Cx X cX1_takeInOrder RX1 wsX1_takeInOrder 6 rmX1_takeInOrder none) : ∀ (n : Nat) (s : Int32 × St) (r : Unit × St), f_X1_takeInOrder_l10 n s = some r → G X (QM mkV X r) s.2 10 [(0, .ref (ad X 11)), (1, .ref (ad X 9)), (2, .ref (ad X 10)), (3, .int (s.1))] [] :=
  loop_sound (fun rec10 hrec10 s r h => s_X1_takeInOrder_b10 C s.1 hrec10 s.2 h)
set_option maxRecDepth 100000 in
set_option maxHeartbeats 4000000 in
theorem s_X1_takeInOrder_b0 {X : MC} (C : Cx X cX1_takeInOrder RX1 wsX1_takeInOrder 6 rmX1_takeInOrder none) (S : St) {r0 : Unit × St} (h : f_X1_takeInOrder_b0 S = some r0) : G X (QM mkV X r0) S 0 [(0, .ref (ad X 11)), (1, .ref (ad X 9)), (2, .ref (ad X 10))] [] := by
  unfold f_X1_takeInOrder_b0 at h
  refine g_aload_n (pc := 0) C dX1_takeInOrder_0 rfl 0 rfl ?_
  refine g_aload_n (pc := 1) C dX1_takeInOrder_1 rfl 1 rfl ?_
  refine g_get (pc := 2) C 9 (w_9 _ _) rfl 1 (Nat.le_of_ble_eq_true rfl) in_X1_X1_takeInOrder k16_X1_takeInOrder rfl dX1_takeInOrder_2 ?_
  refine g_put (pc := 5) C 11 (w_11 _ _) rfl 1 (Nat.le_of_ble_eq_true rfl) in_X1_X1_takeInOrder tyX1_ok nmX1 k16_X1_takeInOrder rfl rfl rfl (Nat.le_of_ble_eq_true rfl) (ws_11_1 _ _ _) dX1_takeInOrder_5 h (fun S1 h => ?_)
  refine g_iconst (pc := 8) (v := 0) C dX1_takeInOrder_8 (by decide) ?_
  refine g_istore_n (pc := 9) C [(3, .int 0), (0, .ref (ad X 11)), (1, .ref (ad X 9)), (2, .ref (ad X 10))] dX1_takeInOrder_9 rfl (Nat.le_of_ble_eq_true rfl) rfl ?_
  refine g_weak (lv1 := [(0, .ref (ad X 11)), (1, .ref (ad X 9)), (2, .ref (ad X 10)), (3, .int 0)]) [1, 2, 3, 0] rfl ?_
  exact s_X1_takeInOrder_l10 C  _ (0, S1) _ h
theorem c_X1_takeInOrder (l : Launch) (b : Bw) (S : St) : Ct l b yX1_takeInOrder wsX1_takeInOrder rmX1_takeInOrder [.ref (bad b 11), .ref (bad b 9), .ref (bad b 10)] S mkV (f_X1_takeInOrder S) := Ct.of (by decide +kernel) rfl (Nat.le_of_ble_eq_true rfl) (fun X C hl hb r h => by
  subst hl; subst hb
  exact s_X1_takeInOrder_b0 C S h)
/-! StyleRows$Events.endOf(I)I -/
set_option maxRecDepth 100000 in
set_option maxHeartbeats 4000000 in
theorem s_X1_endOf_b0 {X : MC} (C : Cx X cX1_endOf RX1 wsX1_endOf 2 rmX1_endOf (some .int)) (a1 : Int32) (S : St) {r0 : Int32 × St} (h : f_X1_endOf_b0 a1 S = some r0) : G X (QM mkI X r0) S 0 [(0, .ref (ad X 11)), (1, .int a1)] [] := by
  unfold f_X1_endOf_b0 at h
  refine g_aload_n (pc := 0) C dX1_endOf_0 rfl 0 rfl ?_
  refine g_get (pc := 1) C 11 (w_11 _ _) rfl 0 (Nat.le_of_ble_eq_true rfl) in_X1_X1_endOf k13_X1_endOf rfl dX1_endOf_1 ?_
  refine g_iconst (pc := 4) (v := 0) C dX1_endOf_4 (by decide) ?_
  refine g_aaldc (pc := 5) (i := 0) C 41 42 (w_41 _ _) rfl rfl dX1_endOf_5 ?_
  refine g_iload_n (pc := 6) C dX1_endOf_6 rfl 1 rfl ?_
  refine g_iald (pc := 7) C 42 (w_42 _ _) h dX1_endOf_7 (fun h => ?_)
  refine g_aload_n (pc := 8) C dX1_endOf_8 rfl 0 rfl ?_
  refine g_get (pc := 9) C 11 (w_11 _ _) rfl 0 (Nat.le_of_ble_eq_true rfl) in_X1_X1_endOf k13_X1_endOf rfl dX1_endOf_9 ?_
  refine g_iconst (pc := 12) (v := 1) C dX1_endOf_12 (by decide) ?_
  refine g_aaldc (pc := 13) (i := 1) C 41 43 (w_41 _ _) rfl rfl dX1_endOf_13 ?_
  refine g_iload_n (pc := 14) C dX1_endOf_14 rfl 1 rfl ?_
  refine g_iald (pc := 15) C 43 (w_43 _ _) h dX1_endOf_15 (fun h => ?_)
  refine g_iadd (pc := 16) C dX1_endOf_16 ?_
  exact g_iret (pc := 17) C h dX1_endOf_17
theorem c_X1_endOf (l : Launch) (b : Bw) (a1 : Int32) (S : St) : Ct l b yX1_endOf wsX1_endOf rmX1_endOf [.ref (bad b 11), .int a1] S mkI (f_X1_endOf a1 S) := Ct.of (by decide +kernel) rfl (Nat.le_of_ble_eq_true rfl) (fun X C hl hb r h => by
  subst hl; subst hb
  exact s_X1_endOf_b0 C a1 S h)
/-! StyleRows$Events.repeats(II)Z -/
set_option maxRecDepth 100000 in
set_option maxHeartbeats 4000000 in
theorem s_X1_repeats_b74 {X : MC} (C : Cx X cX1_repeats RX1 wsX1_repeats 4 rmX1_repeats (some .boolean)) (w0 : Int32) (S : St) {r0 : Int32 × St} (h : f_X1_repeats_b74 w0 S = some r0) : G X (QM mkI X r0) S 74 [] [.int w0] := by
  unfold f_X1_repeats_b74 at h
  exact g_zret (pc := 74) C h dX1_repeats_74
set_option maxRecDepth 100000 in
set_option maxHeartbeats 4000000 in
theorem s_X1_repeats_b73 {X : MC} (C : Cx X cX1_repeats RX1 wsX1_repeats 4 rmX1_repeats (some .boolean)) (S : St) {r0 : Int32 × St} (h : f_X1_repeats_b73 S = some r0) : G X (QM mkI X r0) S 73 [] [] := by
  unfold f_X1_repeats_b73 at h
  refine g_iconst (pc := 73) (v := 0) C dX1_repeats_73 (by decide) ?_
  refine g_weak (lv1 := []) [] rfl ?_
  exact s_X1_repeats_b74 C 0  S h
set_option maxRecDepth 100000 in
set_option maxHeartbeats 4000000 in
theorem s_X1_repeats_b45 {X : MC} (C : Cx X cX1_repeats RX1 wsX1_repeats 4 rmX1_repeats (some .boolean)) (v1 : Int32) (v2 : Int32) (w0 : Int32) (S : St) {r0 : Int32 × St} (h : f_X1_repeats_b45 v1 v2 w0 S = some r0) : G X (QM mkI X r0) S 45 [(0, .ref (ad X 11)), (1, .int v1), (2, .int v2)] [.int w0] := by
  unfold f_X1_repeats_b45 at h
  refine g_istore_n (pc := 45) C [(3, .int w0), (0, .ref (ad X 11)), (1, .int v1), (2, .int v2)] dX1_repeats_45 rfl (Nat.le_of_ble_eq_true rfl) rfl ?_
  refine g_iload_n (pc := 46) C dX1_repeats_46 rfl 0 rfl ?_
  refine g_if_eq (pc := 47) (tgt := 73) C h dX1_repeats_47 (by decide) (fun h => ?_) (fun h => ?_)
  · refine g_weak (lv1 := []) [] rfl ?_
    exact s_X1_repeats_b73 C   S h
  · refine g_aload_n (pc := 50) C dX1_repeats_50 rfl 1 rfl ?_
    refine g_get (pc := 51) C 11 (w_11 _ _) rfl 0 (Nat.le_of_ble_eq_true rfl) in_X1_X1_repeats k13_X1_repeats rfl dX1_repeats_51 ?_
    refine g_iconst (pc := 54) (v := 0) C dX1_repeats_54 (by decide) ?_
    refine g_aaldc (pc := 55) (i := 0) C 41 42 (w_41 _ _) rfl rfl dX1_repeats_55 ?_
    refine g_iload_n (pc := 56) C dX1_repeats_56 rfl 2 rfl ?_
    refine g_iald (pc := 57) C 42 (w_42 _ _) h dX1_repeats_57 (fun h => ?_)
    refine g_aload_n (pc := 58) C dX1_repeats_58 rfl 1 rfl ?_
    refine g_get (pc := 59) C 11 (w_11 _ _) rfl 0 (Nat.le_of_ble_eq_true rfl) in_X1_X1_repeats k13_X1_repeats rfl dX1_repeats_59 ?_
    refine g_iconst (pc := 62) (v := 0) C dX1_repeats_62 (by decide) ?_
    refine g_aaldc (pc := 63) (i := 0) C 41 42 (w_41 _ _) rfl rfl dX1_repeats_63 ?_
    refine g_iload_n (pc := 64) C dX1_repeats_64 rfl 3 rfl ?_
    refine g_iald (pc := 65) C 42 (w_42 _ _) h dX1_repeats_65 (fun h => ?_)
    refine g_icmp_le (pc := 66) (tgt := 73) C h dX1_repeats_66 (by decide) (fun h => ?_) (fun h => ?_)
    · refine g_weak (lv1 := []) [] rfl ?_
      exact s_X1_repeats_b73 C   S h
    · refine g_iconst (pc := 69) (v := 1) C dX1_repeats_69 (by decide) ?_
      refine g_goto (pc := 70) (tgt := 74) C dX1_repeats_70 (by decide) ?_
      refine g_weak (lv1 := []) [] rfl ?_
      exact s_X1_repeats_b74 C 1  S h
set_option maxRecDepth 100000 in
set_option maxHeartbeats 4000000 in
theorem s_X1_repeats_b44 {X : MC} (C : Cx X cX1_repeats RX1 wsX1_repeats 4 rmX1_repeats (some .boolean)) (v1 : Int32) (v2 : Int32) (S : St) {r0 : Int32 × St} (h : f_X1_repeats_b44 v1 v2 S = some r0) : G X (QM mkI X r0) S 44 [(0, .ref (ad X 11)), (1, .int v1), (2, .int v2)] [] := by
  unfold f_X1_repeats_b44 at h
  refine g_iconst (pc := 44) (v := 0) C dX1_repeats_44 (by decide) ?_
  refine g_weak (lv1 := [(0, .ref (ad X 11)), (1, .int v1), (2, .int v2)]) [0, 1, 2] rfl ?_
  exact s_X1_repeats_b45 C v1 v2 0  S h
set_option maxRecDepth 100000 in
set_option maxHeartbeats 4000000 in
theorem s_X1_repeats_b0 {X : MC} (C : Cx X cX1_repeats RX1 wsX1_repeats 4 rmX1_repeats (some .boolean)) (a1 : Int32) (a2 : Int32) (S : St) {r0 : Int32 × St} (h : f_X1_repeats_b0 a1 a2 S = some r0) : G X (QM mkI X r0) S 0 [(0, .ref (ad X 11)), (1, .int a1), (2, .int a2)] [] := by
  unfold f_X1_repeats_b0 at h
  refine g_aload_n (pc := 0) C dX1_repeats_0 rfl 0 rfl ?_
  refine g_get (pc := 1) C 11 (w_11 _ _) rfl 0 (Nat.le_of_ble_eq_true rfl) in_X1_X1_repeats k13_X1_repeats rfl dX1_repeats_1 ?_
  refine g_bipush (pc := 4) (v := 6) C dX1_repeats_4 (by decide) ?_
  refine g_aaldc (pc := 6) (i := 6) C 41 48 (w_41 _ _) rfl rfl dX1_repeats_6 ?_
  refine g_iload_n (pc := 7) C dX1_repeats_7 rfl 1 rfl ?_
  refine g_iald (pc := 8) C 48 (w_48 _ _) h dX1_repeats_8 (fun h => ?_)
  refine g_aload_n (pc := 9) C dX1_repeats_9 rfl 0 rfl ?_
  refine g_get (pc := 10) C 11 (w_11 _ _) rfl 0 (Nat.le_of_ble_eq_true rfl) in_X1_X1_repeats k13_X1_repeats rfl dX1_repeats_10 ?_
  refine g_bipush (pc := 13) (v := 6) C dX1_repeats_13 (by decide) ?_
  refine g_aaldc (pc := 15) (i := 6) C 41 48 (w_41 _ _) rfl rfl dX1_repeats_15 ?_
  refine g_iload_n (pc := 16) C dX1_repeats_16 rfl 2 rfl ?_
  refine g_iald (pc := 17) C 48 (w_48 _ _) h dX1_repeats_17 (fun h => ?_)
  refine g_icmp_ne (pc := 18) (tgt := 44) C h dX1_repeats_18 (by decide) (fun h => ?_) (fun h => ?_)
  · refine g_weak (lv1 := [(0, .ref (ad X 11)), (1, .int a1), (2, .int a2)]) [0, 1, 2] rfl ?_
    exact s_X1_repeats_b44 C a1 a2  S h
  · refine g_aload_n (pc := 21) C dX1_repeats_21 rfl 0 rfl ?_
    refine g_get (pc := 22) C 11 (w_11 _ _) rfl 0 (Nat.le_of_ble_eq_true rfl) in_X1_X1_repeats k13_X1_repeats rfl dX1_repeats_22 ?_
    refine g_iconst (pc := 25) (v := 2) C dX1_repeats_25 (by decide) ?_
    refine g_aaldc (pc := 26) (i := 2) C 41 44 (w_41 _ _) rfl rfl dX1_repeats_26 ?_
    refine g_iload_n (pc := 27) C dX1_repeats_27 rfl 1 rfl ?_
    refine g_iald (pc := 28) C 44 (w_44 _ _) h dX1_repeats_28 (fun h => ?_)
    refine g_aload_n (pc := 29) C dX1_repeats_29 rfl 0 rfl ?_
    refine g_get (pc := 30) C 11 (w_11 _ _) rfl 0 (Nat.le_of_ble_eq_true rfl) in_X1_X1_repeats k13_X1_repeats rfl dX1_repeats_30 ?_
    refine g_iconst (pc := 33) (v := 2) C dX1_repeats_33 (by decide) ?_
    refine g_aaldc (pc := 34) (i := 2) C 41 44 (w_41 _ _) rfl rfl dX1_repeats_34 ?_
    refine g_iload_n (pc := 35) C dX1_repeats_35 rfl 2 rfl ?_
    refine g_iald (pc := 36) C 44 (w_44 _ _) h dX1_repeats_36 (fun h => ?_)
    refine g_icmp_ne (pc := 37) (tgt := 44) C h dX1_repeats_37 (by decide) (fun h => ?_) (fun h => ?_)
    · refine g_weak (lv1 := [(0, .ref (ad X 11)), (1, .int a1), (2, .int a2)]) [0, 1, 2] rfl ?_
      exact s_X1_repeats_b44 C a1 a2  S h
    · refine g_iconst (pc := 40) (v := 1) C dX1_repeats_40 (by decide) ?_
      refine g_goto (pc := 41) (tgt := 45) C dX1_repeats_41 (by decide) ?_
      refine g_weak (lv1 := [(0, .ref (ad X 11)), (1, .int a1), (2, .int a2)]) [0, 1, 2] rfl ?_
      exact s_X1_repeats_b45 C a1 a2 1  S h
theorem c_X1_repeats (l : Launch) (b : Bw) (a1 : Int32) (a2 : Int32) (S : St) : Ct l b yX1_repeats wsX1_repeats rmX1_repeats [.ref (bad b 11), .int a1, .int a2] S mkI (f_X1_repeats a1 a2 S) := Ct.of (by decide +kernel) rfl (Nat.le_of_ble_eq_true rfl) (fun X C hl hb r h => by
  subst hl; subst hb
  exact s_X1_repeats_b0 C a1 a2 S h)
/-! StyleRows$Events.endAtRepeat(I)V -/
set_option maxRecDepth 100000 in
set_option maxHeartbeats 4000000 in
theorem s_X1_endAtRepeat_b71 {X : MC} (C : Cx X cX1_endAtRepeat RX1 wsX1_endAtRepeat 4 rmX1_endAtRepeat none) (S : St) {r0 : Unit × St} (h : f_X1_endAtRepeat_b71 S = some r0) : G X (QM mkV X r0) S 71 [] [] := by
  unfold f_X1_endAtRepeat_b71 at h
  exact g_vret (pc := 71) C h dX1_endAtRepeat_71
set_option maxRecDepth 100000 in
set_option maxHeartbeats 4000000 in
theorem s_X1_endAtRepeat_b10 {X : MC} (C : Cx X cX1_endAtRepeat RX1 wsX1_endAtRepeat 4 rmX1_endAtRepeat none) {rec10 : Int32 × St → Option (Unit × St)} (v1 : Int32) (v2 : Int32) (v3 : Int32) (hrec10 : ∀ (s : Int32 × St) (r : Unit × St), rec10 s = some r → G X (QM mkV X r) s.2 10 [(0, .ref (ad X 11)), (1, .int v1), (2, .int v2), (3, .int (s.1))] []) (S : St) {r0 : Unit × St} (h : f_X1_endAtRepeat_b10 rec10 v1 v2 v3 S = some r0) : G X (QM mkV X r0) S 10 [(0, .ref (ad X 11)), (1, .int v1), (2, .int v2), (3, .int v3)] [] := by
  unfold f_X1_endAtRepeat_b10 at h
  refine g_iload_n (pc := 10) C dX1_endAtRepeat_10 rfl 3 rfl ?_
  refine g_aload_n (pc := 11) C dX1_endAtRepeat_11 rfl 0 rfl ?_
  refine g_get (pc := 12) C 11 (w_11 _ _) rfl 1 (Nat.le_of_ble_eq_true rfl) in_X1_X1_endAtRepeat k16_X1_endAtRepeat rfl dX1_endAtRepeat_12 ?_
  refine g_icmp_ge (pc := 15) (tgt := 71) C h dX1_endAtRepeat_15 (by decide) (fun h => ?_) (fun h => ?_)
  · refine g_weak (lv1 := []) [] rfl ?_
    exact s_X1_endAtRepeat_b71 C   S h
  · refine g_aload_n (pc := 18) C dX1_endAtRepeat_18 rfl 0 rfl ?_
    refine g_get (pc := 19) C 11 (w_11 _ _) rfl 0 (Nat.le_of_ble_eq_true rfl) in_X1_X1_endAtRepeat k13_X1_endAtRepeat rfl dX1_endAtRepeat_19 ?_
    refine g_iconst (pc := 22) (v := 0) C dX1_endAtRepeat_22 (by decide) ?_
    refine g_aaldc (pc := 23) (i := 0) C 41 42 (w_41 _ _) rfl rfl dX1_endAtRepeat_23 ?_
    refine g_iload_n (pc := 24) C dX1_endAtRepeat_24 rfl 3 rfl ?_
    refine g_iald (pc := 25) C 42 (w_42 _ _) h dX1_endAtRepeat_25 (fun h => ?_)
    refine g_iload_n (pc := 26) C dX1_endAtRepeat_26 rfl 2 rfl ?_
    refine g_icmp_ge (pc := 27) (tgt := 71) C h dX1_endAtRepeat_27 (by decide) (fun h => ?_) (fun h => ?_)
    · refine g_weak (lv1 := []) [] rfl ?_
      exact s_X1_endAtRepeat_b71 C   S h
    · refine g_aload_n (pc := 30) C dX1_endAtRepeat_30 rfl 0 rfl ?_
      refine g_iload_n (pc := 31) C dX1_endAtRepeat_31 rfl 3 rfl ?_
      refine g_iload_n (pc := 32) C dX1_endAtRepeat_32 rfl 1 rfl ?_
      refine g_callV (pc := 33) C 11 (c_X1_repeats (Xl X) (Xb X) v3 v1 S) gX1_endAtRepeat_X1_repeats rfl rfl rfl hd_X1_repeats ⟨Nat.le_of_ble_eq_true rfl, Nat.le_of_ble_eq_true rfl⟩ (w_11 _ _) rfl rfl rfl (Nat.le_of_ble_eq_true rfl) dX1_endAtRepeat_33 h (fun r5 S4 h => ?_)
      change G X _ S4 36 [(0, .ref (ad X 11)), (1, .int v1), (2, .int v2), (3, .int v3)] [.int r5]
      refine g_if_eq (pc := 36) (tgt := 65) C h dX1_endAtRepeat_36 (by decide) (fun h => ?_) (fun h => ?_)
      · refine g_iinc (pc := 65) (v := v3 + 1) C [(3, .int (v3 + 1)), (0, .ref (ad X 11)), (1, .int v1), (2, .int v2)] dX1_endAtRepeat_65 3 rfl rfl (Nat.le_of_ble_eq_true rfl) rfl ?_
        refine g_goto (pc := 68) (tgt := 10) C dX1_endAtRepeat_68 (by decide) ?_
        refine g_weak (lv1 := [(0, .ref (ad X 11)), (1, .int v1), (2, .int v2), (3, .int (v3 + 1))]) [1, 2, 3, 0] rfl ?_
        exact hrec10 (v3 + 1, S4) _ h
      · refine g_aload_n (pc := 39) C dX1_endAtRepeat_39 rfl 0 rfl ?_
        refine g_get (pc := 40) C 11 (w_11 _ _) rfl 0 (Nat.le_of_ble_eq_true rfl) in_X1_X1_endAtRepeat k13_X1_endAtRepeat rfl dX1_endAtRepeat_40 ?_
        refine g_iconst (pc := 43) (v := 1) C dX1_endAtRepeat_43 (by decide) ?_
        refine g_aaldc (pc := 44) (i := 1) C 41 43 (w_41 _ _) rfl rfl dX1_endAtRepeat_44 ?_
        refine g_iload_n (pc := 45) C dX1_endAtRepeat_45 rfl 1 rfl ?_
        refine g_aload_n (pc := 46) C dX1_endAtRepeat_46 rfl 0 rfl ?_
        refine g_get (pc := 47) C 11 (w_11 _ _) rfl 0 (Nat.le_of_ble_eq_true rfl) in_X1_X1_endAtRepeat k13_X1_endAtRepeat rfl dX1_endAtRepeat_47 ?_
        refine g_iconst (pc := 50) (v := 0) C dX1_endAtRepeat_50 (by decide) ?_
        refine g_aaldc (pc := 51) (i := 0) C 41 42 (w_41 _ _) rfl rfl dX1_endAtRepeat_51 ?_
        refine g_iload_n (pc := 52) C dX1_endAtRepeat_52 rfl 3 rfl ?_
        refine g_iald (pc := 53) C 42 (w_42 _ _) h dX1_endAtRepeat_53 (fun h => ?_)
        refine g_aload_n (pc := 54) C dX1_endAtRepeat_54 rfl 0 rfl ?_
        refine g_get (pc := 55) C 11 (w_11 _ _) rfl 0 (Nat.le_of_ble_eq_true rfl) in_X1_X1_endAtRepeat k13_X1_endAtRepeat rfl dX1_endAtRepeat_55 ?_
        refine g_iconst (pc := 58) (v := 0) C dX1_endAtRepeat_58 (by decide) ?_
        refine g_aaldc (pc := 59) (i := 0) C 41 42 (w_41 _ _) rfl rfl dX1_endAtRepeat_59 ?_
        refine g_iload_n (pc := 60) C dX1_endAtRepeat_60 rfl 1 rfl ?_
        refine g_iald (pc := 61) C 42 (w_42 _ _) h dX1_endAtRepeat_61 (fun h => ?_)
        refine g_isub (pc := 62) C dX1_endAtRepeat_62 ?_
        refine g_iast (pc := 63) C 43 (w_43 _ _) (ws_43 _ _) h dX1_endAtRepeat_63 (fun S6 h => ?_)
        exact g_vret (pc := 64) C h dX1_endAtRepeat_64
set_option maxRecDepth 100000 in
set_option maxHeartbeats 4000000 in
theorem s_X1_endAtRepeat_l10 {X : MC} (C : Cx X cX1_endAtRepeat RX1 wsX1_endAtRepeat 4 rmX1_endAtRepeat none) (v1 : Int32) (v2 : Int32) : ∀ (n : Nat) (s : Int32 × St) (r : Unit × St), f_X1_endAtRepeat_l10 v1 v2 n s = some r → G X (QM mkV X r) s.2 10 [(0, .ref (ad X 11)), (1, .int v1), (2, .int v2), (3, .int (s.1))] [] :=
  loop_sound (fun rec10 hrec10 s r h => s_X1_endAtRepeat_b10 C v1 v2 s.1 hrec10 s.2 h)
set_option maxRecDepth 100000 in
set_option maxHeartbeats 4000000 in
theorem s_X1_endAtRepeat_b0 {X : MC} (C : Cx X cX1_endAtRepeat RX1 wsX1_endAtRepeat 4 rmX1_endAtRepeat none) (a1 : Int32) (S : St) {r0 : Unit × St} (h : f_X1_endAtRepeat_b0 a1 S = some r0) : G X (QM mkV X r0) S 0 [(0, .ref (ad X 11)), (1, .int a1)] [] := by
  unfold f_X1_endAtRepeat_b0 at h
  refine g_aload_n (pc := 0) C dX1_endAtRepeat_0 rfl 0 rfl ?_
  refine g_iload_n (pc := 1) C dX1_endAtRepeat_1 rfl 1 rfl ?_
  refine g_callV (pc := 2) C 11 (c_X1_endOf (Xl X) (Xb X) a1 S) gX1_endAtRepeat_X1_endOf rfl rfl rfl hd_X1_endOf ⟨Nat.le_of_ble_eq_true rfl, Nat.le_of_ble_eq_true rfl⟩ (w_11 _ _) rfl rfl rfl (Nat.le_of_ble_eq_true rfl) dX1_endAtRepeat_2 h (fun r2 S1 h => ?_)
  change G X _ S1 5 [(0, .ref (ad X 11)), (1, .int a1)] [.int r2]
  refine g_istore_n (pc := 5) C [(2, .int r2), (0, .ref (ad X 11)), (1, .int a1)] dX1_endAtRepeat_5 rfl (Nat.le_of_ble_eq_true rfl) rfl ?_
  refine g_iload_n (pc := 6) C dX1_endAtRepeat_6 rfl 2 rfl ?_
  refine g_iconst (pc := 7) (v := 1) C dX1_endAtRepeat_7 (by decide) ?_
  refine g_iadd (pc := 8) C dX1_endAtRepeat_8 ?_
  refine g_leti h (fun x3 h => ?_)
  refine g_istore_n (pc := 9) C [(3, .int x3), (2, .int r2), (0, .ref (ad X 11)), (1, .int a1)] dX1_endAtRepeat_9 rfl (Nat.le_of_ble_eq_true rfl) rfl ?_
  refine g_weak (lv1 := [(0, .ref (ad X 11)), (1, .int a1), (2, .int r2), (3, .int x3)]) [2, 3, 1, 0] rfl ?_
  exact s_X1_endAtRepeat_l10 C a1 r2 _ (x3, S1) _ h
theorem c_X1_endAtRepeat (l : Launch) (b : Bw) (a1 : Int32) (S : St) : Ct l b yX1_endAtRepeat wsX1_endAtRepeat rmX1_endAtRepeat [.ref (bad b 11), .int a1] S mkV (f_X1_endAtRepeat a1 S) := Ct.of (by decide +kernel) rfl (Nat.le_of_ble_eq_true rfl) (fun X C hl hb r h => by
  subst hl; subst hb
  exact s_X1_endAtRepeat_b0 C a1 S h)
/-! StyleRows$Events.endAtRepeats()V -/
set_option maxRecDepth 100000 in
set_option maxHeartbeats 4000000 in
theorem s_X1_endAtRepeats_b2 {X : MC} (C : Cx X cX1_endAtRepeats RX1 wsX1_endAtRepeats 2 rmX1_endAtRepeats none) {rec2 : Int32 × St → Option (Unit × St)} (v1 : Int32) (hrec2 : ∀ (s : Int32 × St) (r : Unit × St), rec2 s = some r → G X (QM mkV X r) s.2 2 [(0, .ref (ad X 11)), (1, .int (s.1))] []) (S : St) {r0 : Unit × St} (h : f_X1_endAtRepeats_b2 rec2 v1 S = some r0) : G X (QM mkV X r0) S 2 [(0, .ref (ad X 11)), (1, .int v1)] [] := by
  unfold f_X1_endAtRepeats_b2 at h
  refine g_iload_n (pc := 2) C dX1_endAtRepeats_2 rfl 1 rfl ?_
  refine g_aload_n (pc := 3) C dX1_endAtRepeats_3 rfl 0 rfl ?_
  refine g_get (pc := 4) C 11 (w_11 _ _) rfl 1 (Nat.le_of_ble_eq_true rfl) in_X1_X1_endAtRepeats k16_X1_endAtRepeats rfl dX1_endAtRepeats_4 ?_
  refine g_icmp_ge (pc := 7) (tgt := 21) C h dX1_endAtRepeats_7 (by decide) (fun h => ?_) (fun h => ?_)
  · exact g_vret (pc := 21) C h dX1_endAtRepeats_21
  · refine g_aload_n (pc := 10) C dX1_endAtRepeats_10 rfl 0 rfl ?_
    refine g_iload_n (pc := 11) C dX1_endAtRepeats_11 rfl 1 rfl ?_
    refine g_callV (pc := 12) C 11 (c_X1_endAtRepeat (Xl X) (Xb X) v1 S) gX1_endAtRepeats_X1_endAtRepeat rfl rfl rfl hd_X1_endAtRepeat ⟨Nat.le_of_ble_eq_true rfl, Nat.le_of_ble_eq_true rfl⟩ (w_11 _ _) rfl rfl rfl (Nat.le_of_ble_eq_true rfl) dX1_endAtRepeats_12 h (fun _u1 S1 h => ?_)
    change G X _ S1 15 [(0, .ref (ad X 11)), (1, .int v1)] []
    refine g_iinc (pc := 15) (v := v1 + 1) C [(1, .int (v1 + 1)), (0, .ref (ad X 11))] dX1_endAtRepeats_15 1 rfl rfl (Nat.le_of_ble_eq_true rfl) rfl ?_
    refine g_goto (pc := 18) (tgt := 2) C dX1_endAtRepeats_18 (by decide) ?_
    refine g_weak (lv1 := [(0, .ref (ad X 11)), (1, .int (v1 + 1))]) [1, 0] rfl ?_
    exact hrec2 (v1 + 1, S1) _ h
set_option maxRecDepth 100000 in
set_option maxHeartbeats 4000000 in
theorem s_X1_endAtRepeats_l2 {X : MC} (C : Cx X cX1_endAtRepeats RX1 wsX1_endAtRepeats 2 rmX1_endAtRepeats none) : ∀ (n : Nat) (s : Int32 × St) (r : Unit × St), f_X1_endAtRepeats_l2 n s = some r → G X (QM mkV X r) s.2 2 [(0, .ref (ad X 11)), (1, .int (s.1))] [] :=
  loop_sound (fun rec2 hrec2 s r h => s_X1_endAtRepeats_b2 C s.1 hrec2 s.2 h)
set_option maxRecDepth 100000 in
set_option maxHeartbeats 4000000 in
theorem s_X1_endAtRepeats_b0 {X : MC} (C : Cx X cX1_endAtRepeats RX1 wsX1_endAtRepeats 2 rmX1_endAtRepeats none) (S : St) {r0 : Unit × St} (h : f_X1_endAtRepeats_b0 S = some r0) : G X (QM mkV X r0) S 0 [(0, .ref (ad X 11))] [] := by
  unfold f_X1_endAtRepeats_b0 at h
  refine g_iconst (pc := 0) (v := 0) C dX1_endAtRepeats_0 (by decide) ?_
  refine g_istore_n (pc := 1) C [(1, .int 0), (0, .ref (ad X 11))] dX1_endAtRepeats_1 rfl (Nat.le_of_ble_eq_true rfl) rfl ?_
  refine g_weak (lv1 := [(0, .ref (ad X 11)), (1, .int 0)]) [1, 0] rfl ?_
  exact s_X1_endAtRepeats_l2 C  _ (0, S) _ h
theorem c_X1_endAtRepeats (l : Launch) (b : Bw) (S : St) : Ct l b yX1_endAtRepeats wsX1_endAtRepeats rmX1_endAtRepeats [.ref (bad b 11)] S mkV (f_X1_endAtRepeats S) := Ct.of (by decide +kernel) rfl (Nat.le_of_ble_eq_true rfl) (fun X C hl hb r h => by
  subst hl; subst hb
  exact s_X1_endAtRepeats_b0 C S h)
/-! StyleRows.perform()I -/
set_option maxRecDepth 100000 in
set_option maxHeartbeats 4000000 in
theorem s_X11_perform_b0 {X : MC} (C : Cx X cX11_perform RX11 wsX11_perform 2 rmX11_perform (some .int)) (S : St) {r0 : Int32 × St} (h : f_X11_perform_b0 S = some r0) : G X (QM mkI X r0) S 0 [(0, .ref (ad X 0))] [] := by
  unfold f_X11_perform_b0 at h
  refine g_aload_n (pc := 0) C dX11_perform_0 rfl 0 rfl ?_
  refine g_get (pc := 1) C 0 (w_0 _ _) rfl 5 (Nat.le_of_ble_eq_true rfl) in_X11_X11_perform k44_X11_perform rfl dX11_perform_1 ?_
  refine g_aload_n (pc := 4) C dX11_perform_4 rfl 0 rfl ?_
  refine g_get (pc := 5) C 0 (w_0 _ _) rfl 1 (Nat.le_of_ble_eq_true rfl) in_X11_X11_perform k16_X11_perform rfl dX11_perform_5 ?_
  refine g_aload_n (pc := 8) C dX11_perform_8 rfl 0 rfl ?_
  refine g_get (pc := 9) C 0 (w_0 _ _) rfl 3 (Nat.le_of_ble_eq_true rfl) in_X11_X11_perform k30_X11_perform rfl dX11_perform_9 ?_
  refine g_aload_n (pc := 12) C dX11_perform_12 rfl 0 rfl ?_
  refine g_get (pc := 13) C 0 (w_0 _ _) rfl 0 (Nat.le_of_ble_eq_true rfl) in_X11_X11_perform k7_X11_perform rfl dX11_perform_13 ?_
  refine g_callV (pc := 16) C 8 (c_X6_makeParts (Xl X) (Xb X) (gJ S 0) S) gX11_perform_X6_makeParts rfl rfl rfl hd_X6_makeParts ⟨Nat.le_of_ble_eq_true rfl, Nat.le_of_ble_eq_true rfl⟩ (w_8 _ _) rfl rfl rfl (Nat.le_of_ble_eq_true rfl) dX11_perform_16 h (fun r2 S1 h => ?_)
  change G X _ S1 19 [(0, .ref (ad X 0))] [.int r2]
  refine g_if_ne (pc := 19) (tgt := 26) C h dX11_perform_19 (by decide) (fun h => ?_) (fun h => ?_)
  · refine g_aload_n (pc := 26) C dX11_perform_26 rfl 0 rfl ?_
    refine g_get (pc := 27) C 0 (w_0 _ _) rfl 5 (Nat.le_of_ble_eq_true rfl) in_X11_X11_perform k44_X11_perform rfl dX11_perform_27 ?_
    refine g_getN (pc := 30) C 8 (w_8 _ _) rfl 0 (Nat.le_of_ble_eq_true rfl) in_X6_X11_perform nw_X11_159 rfl dX11_perform_30 ?_
    refine g_astore_n (pc := 33) C [(1, .ref (ad X 9)), (0, .ref (ad X 0))] dX11_perform_33 rfl (Nat.le_of_ble_eq_true rfl) rfl ?_
    refine g_aload_n (pc := 34) C dX11_perform_34 rfl 0 rfl ?_
    refine g_aload_n (pc := 35) C dX11_perform_35 rfl 1 rfl ?_
    refine g_get (pc := 36) C 0 (w_0 _ _) rfl 1 (Nat.le_of_ble_eq_true rfl) in_X11_X11_perform k16_X11_perform rfl dX11_perform_36 ?_
    refine g_getN (pc := 39) C 1 (w_1 _ _) rfl 2 (Nat.le_of_ble_eq_true rfl) in_X9_X11_perform nw_X11_104 rfl dX11_perform_39 ?_
    refine g_callV (pc := 42) C 9 (c_X1_bend (Xl X) (Xb X) S1) gX11_perform_X1_bend rfl rfl rfl hd_X1_bend ⟨Nat.le_of_ble_eq_true rfl, Nat.le_of_ble_eq_true rfl⟩ (w_9 _ _) rfl rfl rfl (Nat.le_of_ble_eq_true rfl) dX11_perform_42 h (fun _u3 S3 h => ?_)
    change G X _ S3 45 [(1, .ref (ad X 9)), (0, .ref (ad X 0))] []
    refine g_aload_n (pc := 45) C dX11_perform_45 rfl 1 rfl ?_
    refine g_get (pc := 46) C 0 (w_0 _ _) rfl 6 (Nat.le_of_ble_eq_true rfl) in_X11_X11_perform k51_X11_perform rfl dX11_perform_46 ?_
    refine g_aload_n (pc := 49) C dX11_perform_49 rfl 0 rfl ?_
    refine g_callV (pc := 50) C 10 (c_X5_sort (Xl X) (Xb X) S3) gX11_perform_X5_sort rfl rfl rfl hd_X5_sort ⟨Nat.le_of_ble_eq_true rfl, Nat.le_of_ble_eq_true rfl⟩ (w_10 _ _) rfl rfl rfl (Nat.le_of_ble_eq_true rfl) dX11_perform_50 h (fun _u4 S4 h => ?_)
    change G X _ S4 53 [(1, .ref (ad X 9)), (0, .ref (ad X 0))] []
    refine g_aload_n (pc := 53) C dX11_perform_53 rfl 1 rfl ?_
    refine g_get (pc := 54) C 0 (w_0 _ _) rfl 7 (Nat.le_of_ble_eq_true rfl) in_X11_X11_perform k58_X11_perform rfl dX11_perform_54 ?_
    refine g_aload_n (pc := 57) C dX11_perform_57 rfl 0 rfl ?_
    refine g_aload_n (pc := 58) C dX11_perform_58 rfl 1 rfl ?_
    refine g_get (pc := 59) C 0 (w_0 _ _) rfl 6 (Nat.le_of_ble_eq_true rfl) in_X11_X11_perform k51_X11_perform rfl dX11_perform_59 ?_
    refine g_callV (pc := 62) C 11 (c_X1_takeInOrder (Xl X) (Xb X) S4) gX11_perform_X1_takeInOrder rfl rfl rfl hd_X1_takeInOrder ⟨Nat.le_of_ble_eq_true rfl, Nat.le_of_ble_eq_true rfl⟩ (w_11 _ _) rfl rfl rfl (Nat.le_of_ble_eq_true rfl) dX11_perform_62 h (fun _u5 S5 h => ?_)
    change G X _ S5 65 [(1, .ref (ad X 9)), (0, .ref (ad X 0))] []
    refine g_aload_n (pc := 65) C dX11_perform_65 rfl 1 rfl ?_
    refine g_get (pc := 66) C 0 (w_0 _ _) rfl 7 (Nat.le_of_ble_eq_true rfl) in_X11_X11_perform k58_X11_perform rfl dX11_perform_66 ?_
    refine g_callV (pc := 69) C 11 (c_X1_endAtRepeats (Xl X) (Xb X) S5) gX11_perform_X1_endAtRepeats rfl rfl rfl hd_X1_endAtRepeats ⟨Nat.le_of_ble_eq_true rfl, Nat.le_of_ble_eq_true rfl⟩ (w_11 _ _) rfl rfl rfl (Nat.le_of_ble_eq_true rfl) dX11_perform_69 h (fun _u6 S6 h => ?_)
    change G X _ S6 72 [(1, .ref (ad X 9)), (0, .ref (ad X 0))] []
    refine g_aload_n (pc := 72) C dX11_perform_72 rfl 1 rfl ?_
    refine g_get (pc := 73) C 0 (w_0 _ _) rfl 7 (Nat.le_of_ble_eq_true rfl) in_X11_X11_perform k58_X11_perform rfl dX11_perform_73 ?_
    refine g_getN (pc := 76) C 11 (w_11 _ _) rfl 1 (Nat.le_of_ble_eq_true rfl) in_X1_X11_perform nw_X11_177 rfl dX11_perform_76 ?_
    exact g_iret (pc := 79) C h dX11_perform_79
  · refine g_sipush (pc := 22) (v := (-1004)) C dX11_perform_22 (by decide) ?_
    exact g_iret (pc := 25) C h dX11_perform_25
theorem c_X11_perform (l : Launch) (b : Bw) (S : St) : Ct l b yX11_perform wsX11_perform rmX11_perform [.ref (bad b 0)] S mkI (f_X11_perform S) := Ct.of (by decide +kernel) rfl (Nat.le_of_ble_eq_true rfl) (fun X C hl hb r h => by
  subst hl; subst hb
  exact s_X11_perform_b0 C S h)
/-! StyleRows$Rules.clear()I -/
set_option maxRecDepth 100000 in
set_option maxHeartbeats 4000000 in
theorem s_X8_clear_b17 {X : MC} (C : Cx X cX8_clear RX8 wsX8_clear 3 rmX8_clear (some .int)) {rec17 : Int32 × St → Option (Int32 × St)} (v1 : Int32) (v2 : Int32) (hrec17 : ∀ (s : Int32 × St) (r : Int32 × St), rec17 s = some r → G X (QM mkI X r) s.2 17 [(0, .ref (ad X 6)), (1, .int v1), (2, .int (s.1))] []) (S : St) {r0 : Int32 × St} (h : f_X8_clear_b17 rec17 v1 v2 S = some r0) : G X (QM mkI X r0) S 17 [(0, .ref (ad X 6)), (1, .int v1), (2, .int v2)] [] := by
  unfold f_X8_clear_b17 at h
  refine g_iload_n (pc := 17) C dX8_clear_17 rfl 2 rfl ?_
  refine g_aload_n (pc := 18) C dX8_clear_18 rfl 0 rfl ?_
  refine g_get (pc := 19) C 6 (w_6 _ _) rfl 1 (Nat.le_of_ble_eq_true rfl) in_X8_X8_clear k18_X8_clear rfl dX8_clear_19 ?_
  refine g_alen (pc := 22) (v := 52) C 30 1 (w_30 _ _) rfl rfl dX8_clear_22 ?_
  refine g_icmp_ge (pc := 23) (tgt := 39) C h dX8_clear_23 (by decide) (fun h => ?_) (fun h => ?_)
  · refine g_iload_n (pc := 39) C dX8_clear_39 rfl 1 rfl ?_
    exact g_iret (pc := 40) C h dX8_clear_40
  · refine g_aload_n (pc := 26) C dX8_clear_26 rfl 0 rfl ?_
    refine g_get (pc := 27) C 6 (w_6 _ _) rfl 1 (Nat.le_of_ble_eq_true rfl) in_X8_X8_clear k18_X8_clear rfl dX8_clear_27 ?_
    refine g_iload_n (pc := 30) C dX8_clear_30 rfl 2 rfl ?_
    refine g_iconst (pc := 31) (v := (-1)) C dX8_clear_31 (by decide) ?_
    refine g_iast (pc := 32) C 30 (w_30 _ _) (ws_30 _ _) h dX8_clear_32 (fun S4 h => ?_)
    refine g_iinc (pc := 33) (v := v2 + 1) C [(2, .int (v2 + 1)), (0, .ref (ad X 6)), (1, .int v1)] dX8_clear_33 2 rfl rfl (Nat.le_of_ble_eq_true rfl) rfl ?_
    refine g_goto (pc := 36) (tgt := 17) C dX8_clear_36 (by decide) ?_
    refine g_weak (lv1 := [(0, .ref (ad X 6)), (1, .int v1), (2, .int (v2 + 1))]) [1, 2, 0] rfl ?_
    exact hrec17 (v2 + 1, S4) _ h
set_option maxRecDepth 100000 in
set_option maxHeartbeats 4000000 in
theorem s_X8_clear_l17 {X : MC} (C : Cx X cX8_clear RX8 wsX8_clear 3 rmX8_clear (some .int)) (v1 : Int32) : ∀ (n : Nat) (s : Int32 × St) (r : Int32 × St), f_X8_clear_l17 v1 n s = some r → G X (QM mkI X r) s.2 17 [(0, .ref (ad X 6)), (1, .int v1), (2, .int (s.1))] [] :=
  loop_sound (fun rec17 hrec17 s r h => s_X8_clear_b17 C v1 s.1 hrec17 s.2 h)
set_option maxRecDepth 100000 in
set_option maxHeartbeats 4000000 in
theorem s_X8_clear_b0 {X : MC} (C : Cx X cX8_clear RX8 wsX8_clear 3 rmX8_clear (some .int)) (S : St) {r0 : Int32 × St} (h : f_X8_clear_b0 S = some r0) : G X (QM mkI X r0) S 0 [(0, .ref (ad X 6))] [] := by
  unfold f_X8_clear_b0 at h
  refine g_aload_n (pc := 0) C dX8_clear_0 rfl 0 rfl ?_
  refine g_get (pc := 1) C 6 (w_6 _ _) rfl 2 (Nat.le_of_ble_eq_true rfl) in_X8_X8_clear k26_X8_clear rfl dX8_clear_1 ?_
  refine g_leti h (fun x1 h => ?_)
  refine g_istore_n (pc := 4) C [(1, .int x1), (0, .ref (ad X 6))] dX8_clear_4 rfl (Nat.le_of_ble_eq_true rfl) rfl ?_
  refine g_aload_n (pc := 5) C dX8_clear_5 rfl 1 rfl ?_
  refine g_iconst (pc := 6) (v := 0) C dX8_clear_6 (by decide) ?_
  refine g_put (pc := 7) C 6 (w_6 _ _) rfl 2 (Nat.le_of_ble_eq_true rfl) in_X8_X8_clear tyX8_ok nmX8 k26_X8_clear rfl rfl rfl (Nat.le_of_ble_eq_true rfl) (ws_6_2 _ _ _) dX8_clear_7 h (fun S2 h => ?_)
  refine g_aload_n (pc := 10) C dX8_clear_10 rfl 1 rfl ?_
  refine g_iconst (pc := 11) (v := 0) C dX8_clear_11 (by decide) ?_
  refine g_put (pc := 12) C 6 (w_6 _ _) rfl 3 (Nat.le_of_ble_eq_true rfl) in_X8_X8_clear tyX8_ok nmX8 k30_X8_clear rfl rfl rfl (Nat.le_of_ble_eq_true rfl) (ws_6_3 _ _ _) dX8_clear_12 h (fun S3 h => ?_)
  refine g_iconst (pc := 15) (v := 0) C dX8_clear_15 (by decide) ?_
  refine g_istore_n (pc := 16) C [(2, .int 0), (1, .int x1), (0, .ref (ad X 6))] dX8_clear_16 rfl (Nat.le_of_ble_eq_true rfl) rfl ?_
  refine g_weak (lv1 := [(0, .ref (ad X 6)), (1, .int x1), (2, .int 0)]) [2, 1, 0] rfl ?_
  exact s_X8_clear_l17 C x1 _ (0, S3) _ h
theorem c_X8_clear (l : Launch) (b : Bw) (S : St) : Ct l b yX8_clear wsX8_clear rmX8_clear [.ref (bad b 6)] S mkI (f_X8_clear S) := Ct.of (by decide +kernel) rfl (Nat.le_of_ble_eq_true rfl) (fun X C hl hb r h => by
  subst hl; subst hb
  exact s_X8_clear_b0 C S h)
/-! StyleRows.plain()I -/
set_option maxRecDepth 100000 in
set_option maxHeartbeats 4000000 in
theorem s_X11_plain_b0 {X : MC} (C : Cx X cX11_plain RX11 wsX11_plain 1 rmX11_plain (some .int)) (S : St) {r0 : Int32 × St} (h : f_X11_plain_b0 S = some r0) : G X (QM mkI X r0) S 0 [(0, .ref (ad X 0))] [] := by
  unfold f_X11_plain_b0 at h
  refine g_aload_n (pc := 0) C dX11_plain_0 rfl 0 rfl ?_
  refine g_get (pc := 1) C 0 (w_0 _ _) rfl 3 (Nat.le_of_ble_eq_true rfl) in_X11_X11_plain k30_X11_plain rfl dX11_plain_1 ?_
  refine g_callV (pc := 4) C 6 (c_X8_clear (Xl X) (Xb X) S) gX11_plain_X8_clear rfl rfl rfl hd_X8_clear ⟨Nat.le_of_ble_eq_true rfl, Nat.le_of_ble_eq_true rfl⟩ (w_6 _ _) rfl rfl rfl (Nat.le_of_ble_eq_true rfl) dX11_plain_4 h (fun r2 S1 h => ?_)
  change G X _ S1 7 [(0, .ref (ad X 0))] [.int r2]
  exact g_iret (pc := 7) C h dX11_plain_7
theorem c_X11_plain (l : Launch) (b : Bw) (S : St) : Ct l b yX11_plain wsX11_plain rmX11_plain [.ref (bad b 0)] S mkI (f_X11_plain S) := Ct.of (by decide +kernel) rfl (Nat.le_of_ble_eq_true rfl) (fun X C hl hb r h => by
  subst hl; subst hb
  exact s_X11_plain_b0 C S h)
/-! StyleRows$Rules.dropStaged()V -/
set_option maxRecDepth 100000 in
set_option maxHeartbeats 4000000 in
theorem s_X8_dropStaged_b0 {X : MC} (C : Cx X cX8_dropStaged RX8 wsX8_dropStaged 1 rmX8_dropStaged none) (S : St) {r0 : Unit × St} (h : f_X8_dropStaged_b0 S = some r0) : G X (QM mkV X r0) S 0 [(0, .ref (ad X 6))] [] := by
  unfold f_X8_dropStaged_b0 at h
  refine g_aload_n (pc := 0) C dX8_dropStaged_0 rfl 0 rfl ?_
  refine g_aload_n (pc := 1) C dX8_dropStaged_1 rfl 0 rfl ?_
  refine g_get (pc := 2) C 6 (w_6 _ _) rfl 2 (Nat.le_of_ble_eq_true rfl) in_X8_X8_dropStaged k26_X8_dropStaged rfl dX8_dropStaged_2 ?_
  refine g_put (pc := 5) C 6 (w_6 _ _) rfl 3 (Nat.le_of_ble_eq_true rfl) in_X8_X8_dropStaged tyX8_ok nmX8 k30_X8_dropStaged rfl rfl rfl (Nat.le_of_ble_eq_true rfl) (ws_6_3 _ _ _) dX8_dropStaged_5 h (fun S1 h => ?_)
  exact g_vret (pc := 8) C h dX8_dropStaged_8
theorem c_X8_dropStaged (l : Launch) (b : Bw) (S : St) : Ct l b yX8_dropStaged wsX8_dropStaged rmX8_dropStaged [.ref (bad b 6)] S mkV (f_X8_dropStaged S) := Ct.of (by decide +kernel) rfl (Nat.le_of_ble_eq_true rfl) (fun X C hl hb r h => by
  subst hl; subst hb
  exact s_X8_dropStaged_b0 C S h)
/-! StyleRows$Reader.kindAt(LStyleRows$Tape;I)I -/
set_option maxRecDepth 100000 in
set_option maxHeartbeats 4000000 in
theorem s_X7_kindAt_b25 {X : MC} (C : Cx X cX7_kindAt RX7 wsX7_kindAt 3 rmX7_kindAt (some .int)) (S : St) {r0 : Int32 × St} (h : f_X7_kindAt_b25 S = some r0) : G X (QM mkI X r0) S 25 [] [] := by
  unfold f_X7_kindAt_b25 at h
  refine g_iconst (pc := 25) (v := 1) C dX7_kindAt_25 (by decide) ?_
  exact g_iret (pc := 26) C h dX7_kindAt_26
set_option maxRecDepth 100000 in
set_option maxHeartbeats 4000000 in
theorem s_X7_kindAt_b56 {X : MC} (C : Cx X cX7_kindAt RX7 wsX7_kindAt 3 rmX7_kindAt (some .int)) (w0 : Int32) (S : St) {r0 : Int32 × St} (h : f_X7_kindAt_b56 w0 S = some r0) : G X (QM mkI X r0) S 56 [] [.int w0] := by
  unfold f_X7_kindAt_b56 at h
  exact g_iret (pc := 56) C h dX7_kindAt_56
set_option maxRecDepth 100000 in
set_option maxHeartbeats 4000000 in
theorem s_X7_kindAt_b0 {X : MC} (C : Cx X cX7_kindAt RX7 wsX7_kindAt 3 rmX7_kindAt (some .int)) (a2 : Int32) (S : St) {r0 : Int32 × St} (h : f_X7_kindAt_b0 a2 S = some r0) : G X (QM mkI X r0) S 0 [(0, .ref (ad X 5)), (1, .int a2)] [] := by
  unfold f_X7_kindAt_b0 at h
  refine g_aload_n (pc := 0) C dX7_kindAt_0 rfl 0 rfl ?_
  refine g_iload_n (pc := 1) C dX7_kindAt_1 rfl 1 rfl ?_
  refine g_callV (pc := 2) C 5 (c_X10_at (Xl X) (Xb X) a2 S) gX7_kindAt_X10_at rfl rfl rfl hd_X10_at ⟨Nat.le_of_ble_eq_true rfl, Nat.le_of_ble_eq_true rfl⟩ (w_5 _ _) rfl rfl rfl (Nat.le_of_ble_eq_true rfl) dX7_kindAt_2 h (fun r2 S1 h => ?_)
  change G X _ S1 5 [(0, .ref (ad X 5)), (1, .int a2)] [.int r2]
  refine g_istore_n (pc := 5) C [(2, .int r2), (0, .ref (ad X 5)), (1, .int a2)] dX7_kindAt_5 rfl (Nat.le_of_ble_eq_true rfl) rfl ?_
  refine g_iload_n (pc := 6) C dX7_kindAt_6 rfl 0 rfl ?_
  refine g_iconst (pc := 7) (v := (-1)) C dX7_kindAt_7 (by decide) ?_
  refine g_icmp_ne (pc := 8) (tgt := 13) C h dX7_kindAt_8 (by decide) (fun h => ?_) (fun h => ?_)
  · refine g_iload_n (pc := 13) C dX7_kindAt_13 rfl 0 rfl ?_
    refine g_bipush (pc := 14) (v := 32) C dX7_kindAt_14 (by decide) ?_
    refine g_icmp_eq (pc := 16) (tgt := 25) C h dX7_kindAt_16 (by decide) (fun h => ?_) (fun h => ?_)
    · refine g_weak (lv1 := []) [] rfl ?_
      exact s_X7_kindAt_b25 C   S1 h
    · refine g_iload_n (pc := 19) C dX7_kindAt_19 rfl 0 rfl ?_
      refine g_bipush (pc := 20) (v := 10) C dX7_kindAt_20 (by decide) ?_
      refine g_icmp_ne (pc := 22) (tgt := 27) C h dX7_kindAt_22 (by decide) (fun h => ?_) (fun h => ?_)
      · refine g_iload_n (pc := 27) C dX7_kindAt_27 rfl 0 rfl ?_
        refine g_bipush (pc := 28) (v := 97) C dX7_kindAt_28 (by decide) ?_
        refine g_bipush (pc := 30) (v := 122) C dX7_kindAt_30 (by decide) ?_
        refine g_callSN (pc := 32) C (c_X11_isWithin (Xl X) (Xb X) r2 97 122 S1) gX7_kindAt_X11_isWithin_n83 rfl rfl rfl nw_X7_83 kiniX11_X7_kindAt kstX11_isWithin_X7_kindAt hd_X11_isWithin ⟨Nat.le_of_ble_eq_true rfl, Nat.le_of_ble_eq_true rfl⟩ rfl rfl (Nat.le_of_ble_eq_true rfl) dX7_kindAt_32 h (fun r4 S3 h => ?_)
        change G X _ S3 35 [(2, .int r2), (0, .ref (ad X 5)), (1, .int a2)] [.int r4]
        refine g_if_eq (pc := 35) (tgt := 40) C h dX7_kindAt_35 (by decide) (fun h => ?_) (fun h => ?_)
        · refine g_iload_n (pc := 40) C dX7_kindAt_40 rfl 0 rfl ?_
          refine g_bipush (pc := 41) (v := 48) C dX7_kindAt_41 (by decide) ?_
          refine g_bipush (pc := 43) (v := 57) C dX7_kindAt_43 (by decide) ?_
          refine g_callSN (pc := 45) C (c_X11_isWithin (Xl X) (Xb X) r2 48 57 S3) gX7_kindAt_X11_isWithin_n83 rfl rfl rfl nw_X7_83 kiniX11_X7_kindAt kstX11_isWithin_X7_kindAt hd_X11_isWithin ⟨Nat.le_of_ble_eq_true rfl, Nat.le_of_ble_eq_true rfl⟩ rfl rfl (Nat.le_of_ble_eq_true rfl) dX7_kindAt_45 h (fun r6 S5 h => ?_)
          change G X _ S5 48 [(2, .int r2), (0, .ref (ad X 5)), (1, .int a2)] [.int r6]
          refine g_if_eq (pc := 48) (tgt := 55) C h dX7_kindAt_48 (by decide) (fun h => ?_) (fun h => ?_)
          · refine g_iconst (pc := 55) (v := 4) C dX7_kindAt_55 (by decide) ?_
            refine g_weak (lv1 := []) [] rfl ?_
            exact s_X7_kindAt_b56 C 4  S5 h
          · refine g_iconst (pc := 51) (v := 3) C dX7_kindAt_51 (by decide) ?_
            refine g_goto (pc := 52) (tgt := 56) C dX7_kindAt_52 (by decide) ?_
            refine g_weak (lv1 := []) [] rfl ?_
            exact s_X7_kindAt_b56 C 3  S5 h
        · refine g_iconst (pc := 38) (v := 2) C dX7_kindAt_38 (by decide) ?_
          exact g_iret (pc := 39) C h dX7_kindAt_39
      · refine g_weak (lv1 := []) [] rfl ?_
        exact s_X7_kindAt_b25 C   S1 h
  · refine g_iconst (pc := 11) (v := 0) C dX7_kindAt_11 (by decide) ?_
    exact g_iret (pc := 12) C h dX7_kindAt_12
theorem c_X7_kindAt (l : Launch) (b : Bw) (a2 : Int32) (S : St) : Ct l b yX7_kindAt wsX7_kindAt rmX7_kindAt [.ref (bad b 5), .int a2] S mkI (f_X7_kindAt a2 S) := Ct.of (by decide +kernel) rfl (Nat.le_of_ble_eq_true rfl) (fun X C hl hb r h => by
  subst hl; subst hb
  exact s_X7_kindAt_b0 C a2 S h)
/-! StyleRows$Reader.takePiece(LStyleRows$Tape;)V -/
set_option maxRecDepth 100000 in
set_option maxHeartbeats 4000000 in
theorem s_X7_takePiece_b136 {X : MC} (C : Cx X cX7_takePiece RX7 wsX7_takePiece 2 rmX7_takePiece none) (S : St) {r0 : Unit × St} (h : f_X7_takePiece_b136 S = some r0) : G X (QM mkV X r0) S 136 [] [] := by
  unfold f_X7_takePiece_b136 at h
  exact g_vret (pc := 136) C h dX7_takePiece_136
set_option maxRecDepth 100000 in
set_option maxHeartbeats 4000000 in
theorem s_X7_takePiece_b97 {X : MC} (C : Cx X cX7_takePiece RX7 wsX7_takePiece 2 rmX7_takePiece none) {rec97 : St → Option (Unit × St)} (hrec97 : ∀ (s : St) (r : Unit × St), rec97 s = some r → G X (QM mkV X r) s 97 [(0, .ref (ad X 7)), (1, .ref (ad X 5))] []) (S : St) {r0 : Unit × St} (h : f_X7_takePiece_b97 rec97 S = some r0) : G X (QM mkV X r0) S 97 [(0, .ref (ad X 7)), (1, .ref (ad X 5))] [] := by
  unfold f_X7_takePiece_b97 at h
  refine g_aload_n (pc := 97) C dX7_takePiece_97 rfl 0 rfl ?_
  refine g_get (pc := 98) C 7 (w_7 _ _) rfl 1 (Nat.le_of_ble_eq_true rfl) in_X7_X7_takePiece k14_X7_takePiece rfl dX7_takePiece_98 ?_
  refine g_aload_n (pc := 101) C dX7_takePiece_101 rfl 1 rfl ?_
  refine g_getN (pc := 102) C 5 (w_5 _ _) rfl 1 (Nat.le_of_ble_eq_true rfl) in_X10_X7_takePiece nw_X7_101 rfl dX7_takePiece_102 ?_
  refine g_icmp_ge (pc := 105) (tgt := 136) C h dX7_takePiece_105 (by decide) (fun h => ?_) (fun h => ?_)
  · refine g_weak (lv1 := []) [] rfl ?_
    exact s_X7_takePiece_b136 C   S h
  · refine g_aload_n (pc := 108) C dX7_takePiece_108 rfl 1 rfl ?_
    refine g_aload_n (pc := 109) C dX7_takePiece_109 rfl 0 rfl ?_
    refine g_get (pc := 110) C 7 (w_7 _ _) rfl 1 (Nat.le_of_ble_eq_true rfl) in_X7_X7_takePiece k14_X7_takePiece rfl dX7_takePiece_110 ?_
    refine g_callS (pc := 113) C (c_X7_kindAt (Xl X) (Xb X) (gI S 9) S) gX7_takePiece_X7_kindAt rfl rfl rfl hd_X7_kindAt ⟨Nat.le_of_ble_eq_true rfl, Nat.le_of_ble_eq_true rfl⟩ rfl rfl (Nat.le_of_ble_eq_true rfl) dX7_takePiece_113 h (fun r7 S6 h => ?_)
    change G X _ S6 116 [(0, .ref (ad X 7)), (1, .ref (ad X 5))] [.int r7]
    refine g_aload_n (pc := 116) C dX7_takePiece_116 rfl 0 rfl ?_
    refine g_get (pc := 117) C 7 (w_7 _ _) rfl 2 (Nat.le_of_ble_eq_true rfl) in_X7_X7_takePiece k24_X7_takePiece rfl dX7_takePiece_117 ?_
    refine g_icmp_ne (pc := 120) (tgt := 136) C h dX7_takePiece_120 (by decide) (fun h => ?_) (fun h => ?_)
    · refine g_weak (lv1 := []) [] rfl ?_
      exact s_X7_takePiece_b136 C   S6 h
    · refine g_aload_n (pc := 123) C dX7_takePiece_123 rfl 0 rfl ?_
      refine g_dup (pc := 124) C dX7_takePiece_124 rfl ?_
      refine g_get (pc := 125) C 7 (w_7 _ _) rfl 1 (Nat.le_of_ble_eq_true rfl) in_X7_X7_takePiece k14_X7_takePiece rfl dX7_takePiece_125 ?_
      refine g_iconst (pc := 128) (v := 1) C dX7_takePiece_128 (by decide) ?_
      refine g_iadd (pc := 129) C dX7_takePiece_129 ?_
      refine g_put (pc := 130) C 7 (w_7 _ _) rfl 1 (Nat.le_of_ble_eq_true rfl) in_X7_X7_takePiece tyX7_ok nmX7 k14_X7_takePiece rfl rfl rfl (Nat.le_of_ble_eq_true rfl) (ws_7_1 _ _ _) dX7_takePiece_130 h (fun S8 h => ?_)
      refine g_goto (pc := 133) (tgt := 97) C dX7_takePiece_133 (by decide) ?_
      refine g_weak (lv1 := [(0, .ref (ad X 7)), (1, .ref (ad X 5))]) [0, 1] rfl ?_
      exact hrec97 S8 _ h
set_option maxRecDepth 100000 in
set_option maxHeartbeats 4000000 in
theorem s_X7_takePiece_l97 {X : MC} (C : Cx X cX7_takePiece RX7 wsX7_takePiece 2 rmX7_takePiece none) : ∀ (n : Nat) (s : St) (r : Unit × St), f_X7_takePiece_l97 n s = some r → G X (QM mkV X r) s 97 [(0, .ref (ad X 7)), (1, .ref (ad X 5))] [] :=
  loop_sound (fun rec97 hrec97 s r h => s_X7_takePiece_b97 C  hrec97 s h)
set_option maxRecDepth 100000 in
set_option maxHeartbeats 4000000 in
theorem s_X7_takePiece_b77 {X : MC} (C : Cx X cX7_takePiece RX7 wsX7_takePiece 2 rmX7_takePiece none) (w1 : Int32) (S : St) {r0 : Unit × St} (h : f_X7_takePiece_b77 w1 S = some r0) : G X (QM mkV X r0) S 77 [(0, .ref (ad X 7)), (1, .ref (ad X 5))] [.int w1, .ref (ad X 7)] := by
  unfold f_X7_takePiece_b77 at h
  refine g_put (pc := 77) C 7 (w_7 _ _) rfl 1 (Nat.le_of_ble_eq_true rfl) in_X7_X7_takePiece tyX7_ok nmX7 k14_X7_takePiece rfl rfl rfl (Nat.le_of_ble_eq_true rfl) (ws_7_1 _ _ _) dX7_takePiece_77 h (fun S5 h => ?_)
  refine g_aload_n (pc := 80) C dX7_takePiece_80 rfl 0 rfl ?_
  refine g_get (pc := 81) C 7 (w_7 _ _) rfl 2 (Nat.le_of_ble_eq_true rfl) in_X7_X7_takePiece k24_X7_takePiece rfl dX7_takePiece_81 ?_
  refine g_iconst (pc := 84) (v := 2) C dX7_takePiece_84 (by decide) ?_
  refine g_icmp_eq (pc := 85) (tgt := 97) C h dX7_takePiece_85 (by decide) (fun h => ?_) (fun h => ?_)
  · refine g_weak (lv1 := [(0, .ref (ad X 7)), (1, .ref (ad X 5))]) [0, 1] rfl ?_
    exact s_X7_takePiece_l97 C  _ S5 _ h
  · refine g_aload_n (pc := 88) C dX7_takePiece_88 rfl 0 rfl ?_
    refine g_get (pc := 89) C 7 (w_7 _ _) rfl 2 (Nat.le_of_ble_eq_true rfl) in_X7_X7_takePiece k24_X7_takePiece rfl dX7_takePiece_89 ?_
    refine g_iconst (pc := 92) (v := 3) C dX7_takePiece_92 (by decide) ?_
    refine g_icmp_eq (pc := 93) (tgt := 97) C h dX7_takePiece_93 (by decide) (fun h => ?_) (fun h => ?_)
    · refine g_weak (lv1 := [(0, .ref (ad X 7)), (1, .ref (ad X 5))]) [0, 1] rfl ?_
      exact s_X7_takePiece_l97 C  _ S5 _ h
    · exact g_vret (pc := 96) C h dX7_takePiece_96
set_option maxRecDepth 100000 in
set_option maxHeartbeats 4000000 in
theorem s_X7_takePiece_b44 {X : MC} (C : Cx X cX7_takePiece RX7 wsX7_takePiece 2 rmX7_takePiece none) (S : St) {r0 : Unit × St} (h : f_X7_takePiece_b44 S = some r0) : G X (QM mkV X r0) S 44 [(0, .ref (ad X 7)), (1, .ref (ad X 5))] [] := by
  unfold f_X7_takePiece_b44 at h
  refine g_aload_n (pc := 44) C dX7_takePiece_44 rfl 0 rfl ?_
  refine g_aload_n (pc := 45) C dX7_takePiece_45 rfl 1 rfl ?_
  refine g_aload_n (pc := 46) C dX7_takePiece_46 rfl 0 rfl ?_
  refine g_get (pc := 47) C 7 (w_7 _ _) rfl 0 (Nat.le_of_ble_eq_true rfl) in_X7_X7_takePiece k31_X7_takePiece rfl dX7_takePiece_47 ?_
  refine g_callS (pc := 50) C (c_X7_kindAt (Xl X) (Xb X) (gI S 8) S) gX7_takePiece_X7_kindAt rfl rfl rfl hd_X7_kindAt ⟨Nat.le_of_ble_eq_true rfl, Nat.le_of_ble_eq_true rfl⟩ rfl rfl (Nat.le_of_ble_eq_true rfl) dX7_takePiece_50 h (fun r3 S2 h => ?_)
  change G X _ S2 53 [(0, .ref (ad X 7)), (1, .ref (ad X 5))] [.int r3, .ref (ad X 7)]
  refine g_put (pc := 53) C 7 (w_7 _ _) rfl 2 (Nat.le_of_ble_eq_true rfl) in_X7_X7_takePiece tyX7_ok nmX7 k24_X7_takePiece rfl rfl rfl (Nat.le_of_ble_eq_true rfl) (ws_7_2 _ _ _) dX7_takePiece_53 h (fun S4 h => ?_)
  refine g_aload_n (pc := 56) C dX7_takePiece_56 rfl 0 rfl ?_
  refine g_aload_n (pc := 57) C dX7_takePiece_57 rfl 0 rfl ?_
  refine g_get (pc := 58) C 7 (w_7 _ _) rfl 2 (Nat.le_of_ble_eq_true rfl) in_X7_X7_takePiece k24_X7_takePiece rfl dX7_takePiece_58 ?_
  refine g_if_ne (pc := 61) (tgt := 71) C h dX7_takePiece_61 (by decide) (fun h => ?_) (fun h => ?_)
  · refine g_aload_n (pc := 71) C dX7_takePiece_71 rfl 0 rfl ?_
    refine g_get (pc := 72) C 7 (w_7 _ _) rfl 0 (Nat.le_of_ble_eq_true rfl) in_X7_X7_takePiece k31_X7_takePiece rfl dX7_takePiece_72 ?_
    refine g_iconst (pc := 75) (v := 1) C dX7_takePiece_75 (by decide) ?_
    refine g_iadd (pc := 76) C dX7_takePiece_76 ?_
    refine g_weak (lv1 := [(0, .ref (ad X 7)), (1, .ref (ad X 5))]) [0, 1] rfl ?_
    exact s_X7_takePiece_b77 C ((gI S4 8) + 1)  S4 h
  · refine g_aload_n (pc := 64) C dX7_takePiece_64 rfl 0 rfl ?_
    refine g_get (pc := 65) C 7 (w_7 _ _) rfl 0 (Nat.le_of_ble_eq_true rfl) in_X7_X7_takePiece k31_X7_takePiece rfl dX7_takePiece_65 ?_
    refine g_goto (pc := 68) (tgt := 77) C dX7_takePiece_68 (by decide) ?_
    refine g_weak (lv1 := [(0, .ref (ad X 7)), (1, .ref (ad X 5))]) [0, 1] rfl ?_
    exact s_X7_takePiece_b77 C (gI S4 8)  S4 h
set_option maxRecDepth 100000 in
set_option maxHeartbeats 4000000 in
theorem s_X7_takePiece_b8 {X : MC} (C : Cx X cX7_takePiece RX7 wsX7_takePiece 2 rmX7_takePiece none) {rec8 : St → Option (Unit × St)} (hrec8 : ∀ (s : St) (r : Unit × St), rec8 s = some r → G X (QM mkV X r) s 8 [(0, .ref (ad X 7)), (1, .ref (ad X 5))] []) (S : St) {r0 : Unit × St} (h : f_X7_takePiece_b8 rec8 S = some r0) : G X (QM mkV X r0) S 8 [(0, .ref (ad X 7)), (1, .ref (ad X 5))] [] := by
  unfold f_X7_takePiece_b8 at h
  refine g_aload_n (pc := 8) C dX7_takePiece_8 rfl 0 rfl ?_
  refine g_get (pc := 9) C 7 (w_7 _ _) rfl 0 (Nat.le_of_ble_eq_true rfl) in_X7_X7_takePiece k31_X7_takePiece rfl dX7_takePiece_9 ?_
  refine g_aload_n (pc := 12) C dX7_takePiece_12 rfl 1 rfl ?_
  refine g_getN (pc := 13) C 5 (w_5 _ _) rfl 1 (Nat.le_of_ble_eq_true rfl) in_X10_X7_takePiece nw_X7_101 rfl dX7_takePiece_13 ?_
  refine g_icmp_ge (pc := 16) (tgt := 44) C h dX7_takePiece_16 (by decide) (fun h => ?_) (fun h => ?_)
  · refine g_weak (lv1 := [(0, .ref (ad X 7)), (1, .ref (ad X 5))]) [0, 1] rfl ?_
    exact s_X7_takePiece_b44 C   S h
  · refine g_aload_n (pc := 19) C dX7_takePiece_19 rfl 1 rfl ?_
    refine g_aload_n (pc := 20) C dX7_takePiece_20 rfl 0 rfl ?_
    refine g_get (pc := 21) C 7 (w_7 _ _) rfl 0 (Nat.le_of_ble_eq_true rfl) in_X7_X7_takePiece k31_X7_takePiece rfl dX7_takePiece_21 ?_
    refine g_callS (pc := 24) C (c_X7_kindAt (Xl X) (Xb X) (gI S 8) S) gX7_takePiece_X7_kindAt rfl rfl rfl hd_X7_kindAt ⟨Nat.le_of_ble_eq_true rfl, Nat.le_of_ble_eq_true rfl⟩ rfl rfl (Nat.le_of_ble_eq_true rfl) dX7_takePiece_24 h (fun r10 S9 h => ?_)
    change G X _ S9 27 [(0, .ref (ad X 7)), (1, .ref (ad X 5))] [.int r10]
    refine g_iconst (pc := 27) (v := 1) C dX7_takePiece_27 (by decide) ?_
    refine g_icmp_ne (pc := 28) (tgt := 44) C h dX7_takePiece_28 (by decide) (fun h => ?_) (fun h => ?_)
    · refine g_weak (lv1 := [(0, .ref (ad X 7)), (1, .ref (ad X 5))]) [0, 1] rfl ?_
      exact s_X7_takePiece_b44 C   S9 h
    · refine g_aload_n (pc := 31) C dX7_takePiece_31 rfl 0 rfl ?_
      refine g_dup (pc := 32) C dX7_takePiece_32 rfl ?_
      refine g_get (pc := 33) C 7 (w_7 _ _) rfl 0 (Nat.le_of_ble_eq_true rfl) in_X7_X7_takePiece k31_X7_takePiece rfl dX7_takePiece_33 ?_
      refine g_iconst (pc := 36) (v := 1) C dX7_takePiece_36 (by decide) ?_
      refine g_iadd (pc := 37) C dX7_takePiece_37 ?_
      refine g_put (pc := 38) C 7 (w_7 _ _) rfl 0 (Nat.le_of_ble_eq_true rfl) in_X7_X7_takePiece tyX7_ok nmX7 k31_X7_takePiece rfl rfl rfl (Nat.le_of_ble_eq_true rfl) (ws_7_0 _ _ _) dX7_takePiece_38 h (fun S11 h => ?_)
      refine g_goto (pc := 41) (tgt := 8) C dX7_takePiece_41 (by decide) ?_
      refine g_weak (lv1 := [(0, .ref (ad X 7)), (1, .ref (ad X 5))]) [0, 1] rfl ?_
      exact hrec8 S11 _ h
set_option maxRecDepth 100000 in
set_option maxHeartbeats 4000000 in
theorem s_X7_takePiece_l8 {X : MC} (C : Cx X cX7_takePiece RX7 wsX7_takePiece 2 rmX7_takePiece none) : ∀ (n : Nat) (s : St) (r : Unit × St), f_X7_takePiece_l8 n s = some r → G X (QM mkV X r) s 8 [(0, .ref (ad X 7)), (1, .ref (ad X 5))] [] :=
  loop_sound (fun rec8 hrec8 s r h => s_X7_takePiece_b8 C  hrec8 s h)
set_option maxRecDepth 100000 in
set_option maxHeartbeats 4000000 in
theorem s_X7_takePiece_b0 {X : MC} (C : Cx X cX7_takePiece RX7 wsX7_takePiece 2 rmX7_takePiece none) (S : St) {r0 : Unit × St} (h : f_X7_takePiece_b0 S = some r0) : G X (QM mkV X r0) S 0 [(0, .ref (ad X 7)), (1, .ref (ad X 5))] [] := by
  unfold f_X7_takePiece_b0 at h
  refine g_aload_n (pc := 0) C dX7_takePiece_0 rfl 0 rfl ?_
  refine g_aload_n (pc := 1) C dX7_takePiece_1 rfl 0 rfl ?_
  refine g_get (pc := 2) C 7 (w_7 _ _) rfl 1 (Nat.le_of_ble_eq_true rfl) in_X7_X7_takePiece k14_X7_takePiece rfl dX7_takePiece_2 ?_
  refine g_put (pc := 5) C 7 (w_7 _ _) rfl 0 (Nat.le_of_ble_eq_true rfl) in_X7_X7_takePiece tyX7_ok nmX7 k31_X7_takePiece rfl rfl rfl (Nat.le_of_ble_eq_true rfl) (ws_7_0 _ _ _) dX7_takePiece_5 h (fun S1 h => ?_)
  refine g_weak (lv1 := [(0, .ref (ad X 7)), (1, .ref (ad X 5))]) [0, 1] rfl ?_
  exact s_X7_takePiece_l8 C  _ S1 _ h
theorem c_X7_takePiece (l : Launch) (b : Bw) (S : St) : Ct l b yX7_takePiece wsX7_takePiece rmX7_takePiece [.ref (bad b 7), .ref (bad b 5)] S mkV (f_X7_takePiece S) := Ct.of (by decide +kernel) rfl (Nat.le_of_ble_eq_true rfl) (fun X C hl hb r h => by
  subst hl; subst hb
  exact s_X7_takePiece_b0 C S h)
/-! StyleRows$Rules.areFull()Z -/
set_option maxRecDepth 100000 in
set_option maxHeartbeats 4000000 in
theorem s_X8_areFull_b14 {X : MC} (C : Cx X cX8_areFull RX8 wsX8_areFull 1 rmX8_areFull (some .boolean)) (w0 : Int32) (S : St) {r0 : Int32 × St} (h : f_X8_areFull_b14 w0 S = some r0) : G X (QM mkI X r0) S 14 [] [.int w0] := by
  unfold f_X8_areFull_b14 at h
  exact g_zret (pc := 14) C h dX8_areFull_14
set_option maxRecDepth 100000 in
set_option maxHeartbeats 4000000 in
theorem s_X8_areFull_b0 {X : MC} (C : Cx X cX8_areFull RX8 wsX8_areFull 1 rmX8_areFull (some .boolean)) (S : St) {r0 : Int32 × St} (h : f_X8_areFull_b0 S = some r0) : G X (QM mkI X r0) S 0 [(0, .ref (ad X 6))] [] := by
  unfold f_X8_areFull_b0 at h
  refine g_aload_n (pc := 0) C dX8_areFull_0 rfl 0 rfl ?_
  refine g_get (pc := 1) C 6 (w_6 _ _) rfl 3 (Nat.le_of_ble_eq_true rfl) in_X8_X8_areFull k30_X8_areFull rfl dX8_areFull_1 ?_
  refine g_bipush (pc := 4) (v := 24) C dX8_areFull_4 (by decide) ?_
  refine g_icmp_lt (pc := 6) (tgt := 13) C h dX8_areFull_6 (by decide) (fun h => ?_) (fun h => ?_)
  · refine g_iconst (pc := 13) (v := 0) C dX8_areFull_13 (by decide) ?_
    refine g_weak (lv1 := []) [] rfl ?_
    exact s_X8_areFull_b14 C 0  S h
  · refine g_iconst (pc := 9) (v := 1) C dX8_areFull_9 (by decide) ?_
    refine g_goto (pc := 10) (tgt := 14) C dX8_areFull_10 (by decide) ?_
    refine g_weak (lv1 := []) [] rfl ?_
    exact s_X8_areFull_b14 C 1  S h
theorem c_X8_areFull (l : Launch) (b : Bw) (S : St) : Ct l b yX8_areFull wsX8_areFull rmX8_areFull [.ref (bad b 6)] S mkI (f_X8_areFull S) := Ct.of (by decide +kernel) rfl (Nat.le_of_ble_eq_true rfl) (fun X C hl hb r h => by
  subst hl; subst hb
  exact s_X8_areFull_b0 C S h)
/-! StyleRows$Reader.isWord(LStyleRows$Tape;Ljava/lang/String;)Z -/
set_option maxRecDepth 100000 in
set_option maxHeartbeats 4000000 in
theorem s_X7_isWord_b24 {X : MC} (C : Cx X cX7_isWord RX7 wsX7_isWord 4 rmX7_isWord (some .boolean)) (S : St) {r0 : Int32 × St} (h : f_X7_isWord_b24 S = some r0) : G X (QM mkI X r0) S 24 [] [] := by
  unfold f_X7_isWord_b24 at h
  refine g_iconst (pc := 24) (v := 0) C dX7_isWord_24 (by decide) ?_
  exact g_zretc (pc := 25) C rfl h dX7_isWord_25
set_option maxRecDepth 100000 in
set_option maxHeartbeats 4000000 in
theorem s_X7_isWord_b28 {X : MC} (C : Cx X cX7_isWord RX7 wsX7_isWord 4 rmX7_isWord (some .boolean)) {rec28 : Int32 × St → Option (Int32 × St)} (v2 : Nat) (v3 : Int32) (hrec28 : ∀ (s : Int32 × St) (r : Int32 × St), rec28 s = some r → G X (QM mkI X r) s.2 28 [(0, .ref (ad X 7)), (1, .ref (ad X 5)), (2, .ref (bK (Xb X) v2)), (3, .int (s.1))] []) (S : St) {r0 : Int32 × St} (h : f_X7_isWord_b28 rec28 v2 v3 S = some r0) : G X (QM mkI X r0) S 28 [(0, .ref (ad X 7)), (1, .ref (ad X 5)), (2, .ref (bK (Xb X) v2)), (3, .int v3)] [] := by
  unfold f_X7_isWord_b28 at h
  refine g_iload_n (pc := 28) C dX7_isWord_28 rfl 3 rfl ?_
  refine g_aload_n (pc := 29) C dX7_isWord_29 rfl 2 rfl ?_
  obtain ⟨hs6, h⟩ := chk_some h
  refine g_callT (pc := 30) C v2 (of_decide_eq_true hs6) (c_J0_length_8abf5 (Xl X) (Xb X) v2 S) gX7_isWord_J0_length_8abf5 rfl rfl rfl hd_J0_length_8abf5 ⟨Nat.le_of_ble_eq_true rfl, Nat.le_of_ble_eq_true rfl⟩ rfl rfl (Nat.le_of_ble_eq_true rfl) dX7_isWord_30 h (fun r5 S4 h => ?_)
  change G X _ S4 33 [(0, .ref (ad X 7)), (1, .ref (ad X 5)), (2, .ref (bK (Xb X) v2)), (3, .int v3)] [.int r5, .int v3]
  refine g_icmp_ge (pc := 33) (tgt := 62) C h dX7_isWord_33 (by decide) (fun h => ?_) (fun h => ?_)
  · refine g_iconst (pc := 62) (v := 1) C dX7_isWord_62 (by decide) ?_
    exact g_zretc (pc := 63) C rfl h dX7_isWord_63
  · refine g_aload_n (pc := 36) C dX7_isWord_36 rfl 1 rfl ?_
    refine g_aload_n (pc := 37) C dX7_isWord_37 rfl 0 rfl ?_
    refine g_get (pc := 38) C 7 (w_7 _ _) rfl 0 (Nat.le_of_ble_eq_true rfl) in_X7_X7_isWord k31_X7_isWord rfl dX7_isWord_38 ?_
    refine g_iload_n (pc := 41) C dX7_isWord_41 rfl 3 rfl ?_
    refine g_iadd (pc := 42) C dX7_isWord_42 ?_
    refine g_callV (pc := 43) C 5 (c_X10_at (Xl X) (Xb X) ((gI S4 8) + v3) S4) gX7_isWord_X10_at rfl rfl rfl hd_X10_at ⟨Nat.le_of_ble_eq_true rfl, Nat.le_of_ble_eq_true rfl⟩ (w_5 _ _) rfl rfl rfl (Nat.le_of_ble_eq_true rfl) dX7_isWord_43 h (fun r8 S7 h => ?_)
    change G X _ S7 46 [(0, .ref (ad X 7)), (1, .ref (ad X 5)), (2, .ref (bK (Xb X) v2)), (3, .int v3)] [.int r8]
    refine g_aload_n (pc := 46) C dX7_isWord_46 rfl 2 rfl ?_
    refine g_iload_n (pc := 47) C dX7_isWord_47 rfl 3 rfl ?_
    obtain ⟨hs11, h⟩ := chk_some h
    refine g_callT (pc := 48) C v2 (of_decide_eq_true hs11) (c_J0_charAt_5068e (Xl X) (Xb X) v2 v3 S7) gX7_isWord_J0_charAt_5068e rfl rfl rfl hd_J0_charAt_5068e ⟨Nat.le_of_ble_eq_true rfl, Nat.le_of_ble_eq_true rfl⟩ rfl rfl (Nat.le_of_ble_eq_true rfl) dX7_isWord_48 h (fun r10 S9 h => ?_)
    change G X _ S9 51 [(0, .ref (ad X 7)), (1, .ref (ad X 5)), (2, .ref (bK (Xb X) v2)), (3, .int v3)] [.int r10, .int r8]
    refine g_icmp_eq (pc := 51) (tgt := 56) C h dX7_isWord_51 (by decide) (fun h => ?_) (fun h => ?_)
    · refine g_iinc (pc := 56) (v := v3 + 1) C [(3, .int (v3 + 1)), (0, .ref (ad X 7)), (1, .ref (ad X 5)), (2, .ref (bK (Xb X) v2))] dX7_isWord_56 3 rfl rfl (Nat.le_of_ble_eq_true rfl) rfl ?_
      refine g_goto (pc := 59) (tgt := 28) C dX7_isWord_59 (by decide) ?_
      refine g_weak (lv1 := [(0, .ref (ad X 7)), (1, .ref (ad X 5)), (2, .ref (bK (Xb X) v2)), (3, .int (v3 + 1))]) [1, 2, 3, 0] rfl ?_
      exact hrec28 (v3 + 1, S9) _ h
    · refine g_iconst (pc := 54) (v := 0) C dX7_isWord_54 (by decide) ?_
      exact g_zretc (pc := 55) C rfl h dX7_isWord_55
set_option maxRecDepth 100000 in
set_option maxHeartbeats 4000000 in
theorem s_X7_isWord_l28 {X : MC} (C : Cx X cX7_isWord RX7 wsX7_isWord 4 rmX7_isWord (some .boolean)) (v2 : Nat) : ∀ (n : Nat) (s : Int32 × St) (r : Int32 × St), f_X7_isWord_l28 v2 n s = some r → G X (QM mkI X r) s.2 28 [(0, .ref (ad X 7)), (1, .ref (ad X 5)), (2, .ref (bK (Xb X) v2)), (3, .int (s.1))] [] :=
  loop_sound (fun rec28 hrec28 s r h => s_X7_isWord_b28 C v2 s.1 hrec28 s.2 h)
set_option maxRecDepth 100000 in
set_option maxHeartbeats 4000000 in
theorem s_X7_isWord_b0 {X : MC} (C : Cx X cX7_isWord RX7 wsX7_isWord 4 rmX7_isWord (some .boolean)) (a2 : Nat) (S : St) {r0 : Int32 × St} (h : f_X7_isWord_b0 a2 S = some r0) : G X (QM mkI X r0) S 0 [(0, .ref (ad X 7)), (1, .ref (ad X 5)), (2, .ref (bK (Xb X) a2))] [] := by
  unfold f_X7_isWord_b0 at h
  refine g_aload_n (pc := 0) C dX7_isWord_0 rfl 0 rfl ?_
  refine g_get (pc := 1) C 7 (w_7 _ _) rfl 2 (Nat.le_of_ble_eq_true rfl) in_X7_X7_isWord k24_X7_isWord rfl dX7_isWord_1 ?_
  refine g_iconst (pc := 4) (v := 2) C dX7_isWord_4 (by decide) ?_
  refine g_icmp_ne (pc := 5) (tgt := 24) C h dX7_isWord_5 (by decide) (fun h => ?_) (fun h => ?_)
  · refine g_weak (lv1 := []) [] rfl ?_
    exact s_X7_isWord_b24 C   S h
  · refine g_aload_n (pc := 8) C dX7_isWord_8 rfl 0 rfl ?_
    refine g_get (pc := 9) C 7 (w_7 _ _) rfl 1 (Nat.le_of_ble_eq_true rfl) in_X7_X7_isWord k14_X7_isWord rfl dX7_isWord_9 ?_
    refine g_aload_n (pc := 12) C dX7_isWord_12 rfl 0 rfl ?_
    refine g_get (pc := 13) C 7 (w_7 _ _) rfl 0 (Nat.le_of_ble_eq_true rfl) in_X7_X7_isWord k31_X7_isWord rfl dX7_isWord_13 ?_
    refine g_isub (pc := 16) C dX7_isWord_16 ?_
    refine g_aload_n (pc := 17) C dX7_isWord_17 rfl 2 rfl ?_
    obtain ⟨hs3, h⟩ := chk_some h
    refine g_callT (pc := 18) C a2 (of_decide_eq_true hs3) (c_J0_length_8abf5 (Xl X) (Xb X) a2 S) gX7_isWord_J0_length_8abf5 rfl rfl rfl hd_J0_length_8abf5 ⟨Nat.le_of_ble_eq_true rfl, Nat.le_of_ble_eq_true rfl⟩ rfl rfl (Nat.le_of_ble_eq_true rfl) dX7_isWord_18 h (fun r2 S1 h => ?_)
    change G X _ S1 21 [(0, .ref (ad X 7)), (1, .ref (ad X 5)), (2, .ref (bK (Xb X) a2))] [.int r2, .int ((gI S 9) - (gI S 8))]
    refine g_icmp_eq (pc := 21) (tgt := 26) C h dX7_isWord_21 (by decide) (fun h => ?_) (fun h => ?_)
    · refine g_iconst (pc := 26) (v := 0) C dX7_isWord_26 (by decide) ?_
      refine g_istore_n (pc := 27) C [(3, .int 0), (0, .ref (ad X 7)), (1, .ref (ad X 5)), (2, .ref (bK (Xb X) a2))] dX7_isWord_27 rfl (Nat.le_of_ble_eq_true rfl) rfl ?_
      refine g_weak (lv1 := [(0, .ref (ad X 7)), (1, .ref (ad X 5)), (2, .ref (bK (Xb X) a2)), (3, .int 0)]) [1, 2, 3, 0] rfl ?_
      exact s_X7_isWord_l28 C a2 _ (0, S1) _ h
    · refine g_weak (lv1 := []) [] rfl ?_
      exact s_X7_isWord_b24 C   S1 h
theorem c_X7_isWord (l : Launch) (b : Bw) (a2 : Nat) (S : St) : Ct l b yX7_isWord wsX7_isWord rmX7_isWord [.ref (bad b 7), .ref (bad b 5), .ref (bK b a2)] S mkI (f_X7_isWord a2 S) := Ct.of (by decide +kernel) rfl (Nat.le_of_ble_eq_true rfl) (fun X C hl hb r h => by
  subst hl; subst hb
  exact s_X7_isWord_b0 C a2 S h)
/-! StyleRows$Names.wordOf(I)Ljava/lang/String; -/
set_option maxRecDepth 100000 in
set_option maxHeartbeats 4000000 in
theorem s_X3_wordOf_b0 {X : MC} (C : Cx X cX3_wordOf RX3 wsX3_wordOf 1 rmX3_wordOf (some (.object "java/lang/String"))) (a1 : Int32) (S : St) {r0 : Nat × St} (h : f_X3_wordOf_b0 a1 S = some r0) : G X (QM (mkS (Xb X)) X r0) S 0 [(0, .int a1)] [] := by
  unfold f_X3_wordOf_b0 at h
  refine g_iload_n (pc := 0) C dX3_wordOf_0 rfl 0 rfl ?_
  by_cases hq1 : a1 = 0
  · replace h := ite_t h hq1
    refine g_swIn (pc := 1) (tgt := 68) C 0 hq1 dX3_wordOf_1 (by decide) (by decide) rfl (by decide) ?_
    refine g_ldcS (pc := 68) C sr_X3_15 dX3_wordOf_68 ?_
    exact g_sret (pc := 70) C h dX3_wordOf_70
  replace h := ite_f h hq1
  by_cases hq2 : a1 = 1
  · replace h := ite_t h hq2
    refine g_swIn (pc := 1) (tgt := 71) C 1 hq2 dX3_wordOf_1 (by decide) (by decide) rfl (by decide) ?_
    refine g_ldcS (pc := 71) C sr_X3_17 dX3_wordOf_71 ?_
    exact g_sret (pc := 73) C h dX3_wordOf_73
  replace h := ite_f h hq2
  by_cases hq3 : a1 = 2
  · replace h := ite_t h hq3
    refine g_swIn (pc := 1) (tgt := 74) C 2 hq3 dX3_wordOf_1 (by decide) (by decide) rfl (by decide) ?_
    refine g_ldcS (pc := 74) C sr_X3_19 dX3_wordOf_74 ?_
    exact g_sret (pc := 76) C h dX3_wordOf_76
  replace h := ite_f h hq3
  by_cases hq4 : a1 = 3
  · replace h := ite_t h hq4
    refine g_swIn (pc := 1) (tgt := 77) C 3 hq4 dX3_wordOf_1 (by decide) (by decide) rfl (by decide) ?_
    refine g_ldcS (pc := 77) C sr_X3_21 dX3_wordOf_77 ?_
    exact g_sret (pc := 79) C h dX3_wordOf_79
  replace h := ite_f h hq4
  by_cases hq5 : a1 = 4
  · replace h := ite_t h hq5
    refine g_swIn (pc := 1) (tgt := 80) C 4 hq5 dX3_wordOf_1 (by decide) (by decide) rfl (by decide) ?_
    refine g_ldcS (pc := 80) C sr_X3_23 dX3_wordOf_80 ?_
    exact g_sret (pc := 82) C h dX3_wordOf_82
  replace h := ite_f h hq5
  by_cases hq6 : a1 = 5
  · replace h := ite_t h hq6
    refine g_swIn (pc := 1) (tgt := 83) C 5 hq6 dX3_wordOf_1 (by decide) (by decide) rfl (by decide) ?_
    refine g_ldcS (pc := 83) C sr_X3_25 dX3_wordOf_83 ?_
    exact g_sret (pc := 85) C h dX3_wordOf_85
  replace h := ite_f h hq6
  by_cases hq7 : a1 = 6
  · replace h := ite_t h hq7
    refine g_swIn (pc := 1) (tgt := 86) C 6 hq7 dX3_wordOf_1 (by decide) (by decide) rfl (by decide) ?_
    refine g_ldcS (pc := 86) C sr_X3_27 dX3_wordOf_86 ?_
    exact g_sret (pc := 88) C h dX3_wordOf_88
  replace h := ite_f h hq7
  by_cases hq8 : a1 = 7
  · replace h := ite_t h hq8
    refine g_swIn (pc := 1) (tgt := 89) C 7 hq8 dX3_wordOf_1 (by decide) (by decide) rfl (by decide) ?_
    refine g_ldcS (pc := 89) C sr_X3_29 dX3_wordOf_89 ?_
    exact g_sret (pc := 91) C h dX3_wordOf_91
  replace h := ite_f h hq8
  by_cases hq9 : a1 = 8
  · replace h := ite_t h hq9
    refine g_swIn (pc := 1) (tgt := 92) C 8 hq9 dX3_wordOf_1 (by decide) (by decide) rfl (by decide) ?_
    refine g_ldcS (pc := 92) C sr_X3_31 dX3_wordOf_92 ?_
    exact g_sret (pc := 94) C h dX3_wordOf_94
  replace h := ite_f h hq9
  by_cases hq10 : a1 = 9
  · replace h := ite_t h hq10
    refine g_swIn (pc := 1) (tgt := 95) C 9 hq10 dX3_wordOf_1 (by decide) (by decide) rfl (by decide) ?_
    refine g_ldcS (pc := 95) C sr_X3_33 dX3_wordOf_95 ?_
    exact g_sret (pc := 97) C h dX3_wordOf_97
  replace h := ite_f h hq10
  by_cases hq11 : a1 = 10
  · replace h := ite_t h hq11
    refine g_swIn (pc := 1) (tgt := 98) C 10 hq11 dX3_wordOf_1 (by decide) (by decide) rfl (by decide) ?_
    refine g_ldcS (pc := 98) C sr_X3_35 dX3_wordOf_98 ?_
    exact g_sret (pc := 100) C h dX3_wordOf_100
  replace h := ite_f h hq11
  by_cases hq12 : a1 = 11
  · replace h := ite_t h hq12
    refine g_swIn (pc := 1) (tgt := 101) C 11 hq12 dX3_wordOf_1 (by decide) (by decide) rfl (by decide) ?_
    refine g_ldcS (pc := 101) C sr_X3_37 dX3_wordOf_101 ?_
    exact g_sret (pc := 103) C h dX3_wordOf_103
  replace h := ite_f h hq12
  by_cases hq13 : a1 = 12
  · replace h := ite_t h hq13
    refine g_swIn (pc := 1) (tgt := 104) C 12 hq13 dX3_wordOf_1 (by decide) (by decide) rfl (by decide) ?_
    refine g_ldcS (pc := 104) C sr_X3_39 dX3_wordOf_104 ?_
    exact g_sret (pc := 106) C h dX3_wordOf_106
  replace h := ite_f h hq13
  refine g_swOut (pc := 1) (tgt := 107) C (sw_out_12 hq1 hq2 hq3 hq4 hq5 hq6 hq7 hq8 hq9 hq10 hq11 hq12 hq13) dX3_wordOf_1 (by decide) ?_
  refine g_ldcS (pc := 107) C sr_X3_41 dX3_wordOf_107 ?_
  exact g_sret (pc := 109) C h dX3_wordOf_109
theorem c_X3_wordOf (l : Launch) (b : Bw) (a1 : Int32) (S : St) : Ct l b yX3_wordOf wsX3_wordOf rmX3_wordOf [.int a1] S (mkS b) (f_X3_wordOf a1 S) := Ct.of (by decide +kernel) rfl (Nat.le_of_ble_eq_true rfl) (fun X C hl hb r h => by
  subst hl; subst hb
  exact s_X3_wordOf_b0 C a1 S h)
/-! StyleRows$Reader.nameThere(LStyleRows$Tape;)I -/
set_option maxRecDepth 100000 in
set_option maxHeartbeats 4000000 in
theorem s_X7_nameThere_b2 {X : MC} (C : Cx X cX7_nameThere RX7 wsX7_nameThere 3 rmX7_nameThere (some .int)) {rec2 : Int32 × St → Option (Int32 × St)} (v2 : Int32) (hrec2 : ∀ (s : Int32 × St) (r : Int32 × St), rec2 s = some r → G X (QM mkI X r) s.2 2 [(0, .ref (ad X 7)), (1, .ref (ad X 5)), (2, .int (s.1))] []) (S : St) {r0 : Int32 × St} (h : f_X7_nameThere_b2 rec2 v2 S = some r0) : G X (QM mkI X r0) S 2 [(0, .ref (ad X 7)), (1, .ref (ad X 5)), (2, .int v2)] [] := by
  unfold f_X7_nameThere_b2 at h
  refine g_iload_n (pc := 2) C dX7_nameThere_2 rfl 2 rfl ?_
  refine g_bipush (pc := 3) (v := 13) C dX7_nameThere_3 (by decide) ?_
  refine g_icmp_ge (pc := 5) (tgt := 28) C h dX7_nameThere_5 (by decide) (fun h => ?_) (fun h => ?_)
  · refine g_iconst (pc := 28) (v := (-1)) C dX7_nameThere_28 (by decide) ?_
    exact g_iret (pc := 29) C h dX7_nameThere_29
  · refine g_aload_n (pc := 8) C dX7_nameThere_8 rfl 0 rfl ?_
    refine g_aload_n (pc := 9) C dX7_nameThere_9 rfl 1 rfl ?_
    refine g_iload_n (pc := 10) C dX7_nameThere_10 rfl 2 rfl ?_
    refine g_callS (pc := 11) C (c_X3_wordOf (Xl X) (Xb X) v2 S) gX7_nameThere_X3_wordOf rfl rfl rfl hd_X3_wordOf ⟨Nat.le_of_ble_eq_true rfl, Nat.le_of_ble_eq_true rfl⟩ rfl rfl (Nat.le_of_ble_eq_true rfl) dX7_nameThere_11 h (fun r2 S1 h => ?_)
    change G X _ S1 14 [(0, .ref (ad X 7)), (1, .ref (ad X 5)), (2, .int v2)] [.ref (bK (Xb X) r2), .ref (ad X 5), .ref (ad X 7)]
    refine g_callV (pc := 14) C 7 (c_X7_isWord (Xl X) (Xb X) r2 S1) gX7_nameThere_X7_isWord rfl rfl rfl hd_X7_isWord ⟨Nat.le_of_ble_eq_true rfl, Nat.le_of_ble_eq_true rfl⟩ (w_7 _ _) rfl rfl rfl (Nat.le_of_ble_eq_true rfl) dX7_nameThere_14 h (fun r4 S3 h => ?_)
    change G X _ S3 17 [(0, .ref (ad X 7)), (1, .ref (ad X 5)), (2, .int v2)] [.int r4]
    refine g_if_eq (pc := 17) (tgt := 22) C h dX7_nameThere_17 (by decide) (fun h => ?_) (fun h => ?_)
    · refine g_iinc (pc := 22) (v := v2 + 1) C [(2, .int (v2 + 1)), (0, .ref (ad X 7)), (1, .ref (ad X 5))] dX7_nameThere_22 2 rfl rfl (Nat.le_of_ble_eq_true rfl) rfl ?_
      refine g_goto (pc := 25) (tgt := 2) C dX7_nameThere_25 (by decide) ?_
      refine g_weak (lv1 := [(0, .ref (ad X 7)), (1, .ref (ad X 5)), (2, .int (v2 + 1))]) [1, 2, 0] rfl ?_
      exact hrec2 (v2 + 1, S3) _ h
    · refine g_iload_n (pc := 20) C dX7_nameThere_20 rfl 2 rfl ?_
      exact g_iret (pc := 21) C h dX7_nameThere_21
set_option maxRecDepth 100000 in
set_option maxHeartbeats 4000000 in
theorem s_X7_nameThere_l2 {X : MC} (C : Cx X cX7_nameThere RX7 wsX7_nameThere 3 rmX7_nameThere (some .int)) : ∀ (n : Nat) (s : Int32 × St) (r : Int32 × St), f_X7_nameThere_l2 n s = some r → G X (QM mkI X r) s.2 2 [(0, .ref (ad X 7)), (1, .ref (ad X 5)), (2, .int (s.1))] [] :=
  loop_sound (fun rec2 hrec2 s r h => s_X7_nameThere_b2 C s.1 hrec2 s.2 h)
set_option maxRecDepth 100000 in
set_option maxHeartbeats 4000000 in
theorem s_X7_nameThere_b0 {X : MC} (C : Cx X cX7_nameThere RX7 wsX7_nameThere 3 rmX7_nameThere (some .int)) (S : St) {r0 : Int32 × St} (h : f_X7_nameThere_b0 S = some r0) : G X (QM mkI X r0) S 0 [(0, .ref (ad X 7)), (1, .ref (ad X 5))] [] := by
  unfold f_X7_nameThere_b0 at h
  refine g_iconst (pc := 0) (v := 0) C dX7_nameThere_0 (by decide) ?_
  refine g_istore_n (pc := 1) C [(2, .int 0), (0, .ref (ad X 7)), (1, .ref (ad X 5))] dX7_nameThere_1 rfl (Nat.le_of_ble_eq_true rfl) rfl ?_
  refine g_weak (lv1 := [(0, .ref (ad X 7)), (1, .ref (ad X 5)), (2, .int 0)]) [1, 2, 0] rfl ?_
  exact s_X7_nameThere_l2 C  _ (0, S) _ h
theorem c_X7_nameThere (l : Launch) (b : Bw) (S : St) : Ct l b yX7_nameThere wsX7_nameThere rmX7_nameThere [.ref (bad b 7), .ref (bad b 5)] S mkI (f_X7_nameThere S) := Ct.of (by decide +kernel) rfl (Nat.le_of_ble_eq_true rfl) (fun X C hl hb r h => by
  subst hl; subst hb
  exact s_X7_nameThere_b0 C S h)
/-! StyleRows$Reader.takeNumber(LStyleRows$Tape;II)Z -/
set_option maxRecDepth 100000 in
set_option maxHeartbeats 4000000 in
theorem s_X7_takeNumber_b21 {X : MC} (C : Cx X cX7_takeNumber RX7 wsX7_takeNumber 5 rmX7_takeNumber (some .boolean)) {rec21 : Int32 × St → Option (Int32 × St)} (v2 : Int32) (v3 : Int32) (v4 : Int32) (hrec21 : ∀ (s : Int32 × St) (r : Int32 × St), rec21 s = some r → G X (QM mkI X r) s.2 21 [(0, .ref (ad X 7)), (1, .ref (ad X 5)), (2, .int v2), (3, .int v3), (4, .int (s.1))] []) (S : St) {r0 : Int32 × St} (h : f_X7_takeNumber_b21 rec21 v2 v3 v4 S = some r0) : G X (QM mkI X r0) S 21 [(0, .ref (ad X 7)), (1, .ref (ad X 5)), (2, .int v2), (3, .int v3), (4, .int v4)] [] := by
  unfold f_X7_takeNumber_b21 at h
  refine g_iload (pc := 21) C dX7_takeNumber_21 4 rfl ?_
  refine g_aload_n (pc := 23) C dX7_takeNumber_23 rfl 0 rfl ?_
  refine g_get (pc := 24) C 7 (w_7 _ _) rfl 1 (Nat.le_of_ble_eq_true rfl) in_X7_X7_takeNumber k14_X7_takeNumber rfl dX7_takeNumber_24 ?_
  refine g_icmp_ge (pc := 27) (tgt := 62) C h dX7_takeNumber_27 (by decide) (fun h => ?_) (fun h => ?_)
  · refine g_aload_n (pc := 62) C dX7_takeNumber_62 rfl 0 rfl ?_
    refine g_get (pc := 63) C 7 (w_7 _ _) rfl 3 (Nat.le_of_ble_eq_true rfl) in_X7_X7_takeNumber k48_X7_takeNumber rfl dX7_takeNumber_63 ?_
    refine g_iload_n (pc := 66) C dX7_takeNumber_66 rfl 2 rfl ?_
    refine g_iload_n (pc := 67) C dX7_takeNumber_67 rfl 3 rfl ?_
    refine g_callSN (pc := 68) C (c_X11_isWithin (Xl X) (Xb X) (gI S 11) v2 v3 S) gX7_takeNumber_X11_isWithin_n83 rfl rfl rfl nw_X7_83 kiniX11_X7_takeNumber kstX11_isWithin_X7_takeNumber hd_X11_isWithin ⟨Nat.le_of_ble_eq_true rfl, Nat.le_of_ble_eq_true rfl⟩ rfl rfl (Nat.le_of_ble_eq_true rfl) dX7_takeNumber_68 h (fun r4 S3 h => ?_)
    change G X _ S3 71 [(0, .ref (ad X 7)), (1, .ref (ad X 5)), (2, .int v2), (3, .int v3), (4, .int v4)] [.int r4]
    refine g_if_ne (pc := 71) (tgt := 76) C h dX7_takeNumber_71 (by decide) (fun h => ?_) (fun h => ?_)
    · refine g_aload_n (pc := 76) C dX7_takeNumber_76 rfl 0 rfl ?_
      refine g_aload_n (pc := 77) C dX7_takeNumber_77 rfl 1 rfl ?_
      refine g_callV (pc := 78) C 7 (c_X7_takePiece (Xl X) (Xb X) S3) gX7_takeNumber_X7_takePiece rfl rfl rfl hd_X7_takePiece ⟨Nat.le_of_ble_eq_true rfl, Nat.le_of_ble_eq_true rfl⟩ (w_7 _ _) rfl rfl rfl (Nat.le_of_ble_eq_true rfl) dX7_takeNumber_78 h (fun _u5 S5 h => ?_)
      change G X _ S5 81 [(0, .ref (ad X 7)), (1, .ref (ad X 5)), (2, .int v2), (3, .int v3), (4, .int v4)] []
      refine g_iconst (pc := 81) (v := 1) C dX7_takeNumber_81 (by decide) ?_
      exact g_zretc (pc := 82) C rfl h dX7_takeNumber_82
    · refine g_iconst (pc := 74) (v := 0) C dX7_takeNumber_74 (by decide) ?_
      exact g_zretc (pc := 75) C rfl h dX7_takeNumber_75
  · refine g_aload_n (pc := 30) C dX7_takeNumber_30 rfl 0 rfl ?_
    refine g_ldc (pc := 31) (v := 1000000) C k76_X7_takeNumber dX7_takeNumber_31 ?_
    refine g_aload_n (pc := 33) C dX7_takeNumber_33 rfl 0 rfl ?_
    refine g_get (pc := 34) C 7 (w_7 _ _) rfl 3 (Nat.le_of_ble_eq_true rfl) in_X7_X7_takeNumber k48_X7_takeNumber rfl dX7_takeNumber_34 ?_
    refine g_bipush (pc := 37) (v := 10) C dX7_takeNumber_37 (by decide) ?_
    refine g_imul (pc := 39) C dX7_takeNumber_39 ?_
    refine g_aload_n (pc := 40) C dX7_takeNumber_40 rfl 1 rfl ?_
    refine g_iload (pc := 41) C dX7_takeNumber_41 4 rfl ?_
    refine g_callV (pc := 43) C 5 (c_X10_at (Xl X) (Xb X) v4 S) gX7_takeNumber_X10_at rfl rfl rfl hd_X10_at ⟨Nat.le_of_ble_eq_true rfl, Nat.le_of_ble_eq_true rfl⟩ (w_5 _ _) rfl rfl rfl (Nat.le_of_ble_eq_true rfl) dX7_takeNumber_43 h (fun r7 S6 h => ?_)
    change G X _ S6 46 [(0, .ref (ad X 7)), (1, .ref (ad X 5)), (2, .int v2), (3, .int v3), (4, .int v4)] [.int r7, .int ((gI S 11) * 10), .int 1000000, .ref (ad X 7)]
    refine g_iadd (pc := 46) C dX7_takeNumber_46 ?_
    refine g_bipush (pc := 47) (v := 48) C dX7_takeNumber_47 (by decide) ?_
    refine g_isub (pc := 49) C dX7_takeNumber_49 ?_
    refine g_mmin (pc := 50) C k77_X7_takeNumber kstmin_X7_takeNumber kini_X7_takeNumber kcomin_X7_takeNumber (Nat.le_of_ble_eq_true rfl) (Nat.le_of_ble_eq_true rfl) dX7_takeNumber_50 ?_
    refine g_put (pc := 53) C 7 (w_7 _ _) rfl 3 (Nat.le_of_ble_eq_true rfl) in_X7_X7_takeNumber tyX7_ok nmX7 k48_X7_takeNumber rfl rfl rfl (Nat.le_of_ble_eq_true rfl) (ws_7_3 _ _ _) dX7_takeNumber_53 h (fun S8 h => ?_)
    refine g_iinc (pc := 56) (v := v4 + 1) C [(4, .int (v4 + 1)), (0, .ref (ad X 7)), (1, .ref (ad X 5)), (2, .int v2), (3, .int v3)] dX7_takeNumber_56 4 rfl rfl (Nat.le_of_ble_eq_true rfl) rfl ?_
    refine g_goto (pc := 59) (tgt := 21) C dX7_takeNumber_59 (by decide) ?_
    refine g_weak (lv1 := [(0, .ref (ad X 7)), (1, .ref (ad X 5)), (2, .int v2), (3, .int v3), (4, .int (v4 + 1))]) [1, 2, 3, 4, 0] rfl ?_
    exact hrec21 (v4 + 1, S8) _ h
set_option maxRecDepth 100000 in
set_option maxHeartbeats 4000000 in
theorem s_X7_takeNumber_l21 {X : MC} (C : Cx X cX7_takeNumber RX7 wsX7_takeNumber 5 rmX7_takeNumber (some .boolean)) (v2 : Int32) (v3 : Int32) : ∀ (n : Nat) (s : Int32 × St) (r : Int32 × St), f_X7_takeNumber_l21 v2 v3 n s = some r → G X (QM mkI X r) s.2 21 [(0, .ref (ad X 7)), (1, .ref (ad X 5)), (2, .int v2), (3, .int v3), (4, .int (s.1))] [] :=
  loop_sound (fun rec21 hrec21 s r h => s_X7_takeNumber_b21 C v2 v3 s.1 hrec21 s.2 h)
set_option maxRecDepth 100000 in
set_option maxHeartbeats 4000000 in
theorem s_X7_takeNumber_b0 {X : MC} (C : Cx X cX7_takeNumber RX7 wsX7_takeNumber 5 rmX7_takeNumber (some .boolean)) (a2 : Int32) (a3 : Int32) (S : St) {r0 : Int32 × St} (h : f_X7_takeNumber_b0 a2 a3 S = some r0) : G X (QM mkI X r0) S 0 [(0, .ref (ad X 7)), (1, .ref (ad X 5)), (2, .int a2), (3, .int a3)] [] := by
  unfold f_X7_takeNumber_b0 at h
  refine g_aload_n (pc := 0) C dX7_takeNumber_0 rfl 0 rfl ?_
  refine g_get (pc := 1) C 7 (w_7 _ _) rfl 2 (Nat.le_of_ble_eq_true rfl) in_X7_X7_takeNumber k24_X7_takeNumber rfl dX7_takeNumber_1 ?_
  refine g_iconst (pc := 4) (v := 3) C dX7_takeNumber_4 (by decide) ?_
  refine g_icmp_eq (pc := 5) (tgt := 10) C h dX7_takeNumber_5 (by decide) (fun h => ?_) (fun h => ?_)
  · refine g_aload_n (pc := 10) C dX7_takeNumber_10 rfl 0 rfl ?_
    refine g_iconst (pc := 11) (v := 0) C dX7_takeNumber_11 (by decide) ?_
    refine g_put (pc := 12) C 7 (w_7 _ _) rfl 3 (Nat.le_of_ble_eq_true rfl) in_X7_X7_takeNumber tyX7_ok nmX7 k48_X7_takeNumber rfl rfl rfl (Nat.le_of_ble_eq_true rfl) (ws_7_3 _ _ _) dX7_takeNumber_12 h (fun S1 h => ?_)
    refine g_aload_n (pc := 15) C dX7_takeNumber_15 rfl 0 rfl ?_
    refine g_get (pc := 16) C 7 (w_7 _ _) rfl 0 (Nat.le_of_ble_eq_true rfl) in_X7_X7_takeNumber k31_X7_takeNumber rfl dX7_takeNumber_16 ?_
    refine g_leti h (fun x2 h => ?_)
    refine g_istore (pc := 19) C [(4, .int x2), (0, .ref (ad X 7)), (1, .ref (ad X 5)), (2, .int a2), (3, .int a3)] dX7_takeNumber_19 (Nat.le_of_ble_eq_true rfl) rfl ?_
    refine g_weak (lv1 := [(0, .ref (ad X 7)), (1, .ref (ad X 5)), (2, .int a2), (3, .int a3), (4, .int x2)]) [1, 2, 3, 4, 0] rfl ?_
    exact s_X7_takeNumber_l21 C a2 a3 _ (x2, S1) _ h
  · refine g_iconst (pc := 8) (v := 0) C dX7_takeNumber_8 (by decide) ?_
    exact g_zretc (pc := 9) C rfl h dX7_takeNumber_9
theorem c_X7_takeNumber (l : Launch) (b : Bw) (a2 : Int32) (a3 : Int32) (S : St) : Ct l b yX7_takeNumber wsX7_takeNumber rmX7_takeNumber [.ref (bad b 7), .ref (bad b 5), .int a2, .int a3] S mkI (f_X7_takeNumber a2 a3 S) := Ct.of (by decide +kernel) rfl (Nat.le_of_ble_eq_true rfl) (fun X C hl hb r h => by
  subst hl; subst hb
  exact s_X7_takeNumber_b0 C a2 a3 S h)
/-! StyleRows$Rules.stage(IIII)V -/
set_option maxRecDepth 100000 in
set_option maxHeartbeats 4000000 in
theorem s_X8_stage_b0 {X : MC} (C : Cx X cX8_stage RX8 wsX8_stage 5 rmX8_stage none) (a1 : Int32) (a2 : Int32) (a3 : Int32) (a4 : Int32) (S : St) {r0 : Unit × St} (h : f_X8_stage_b0 a1 a2 a3 a4 S = some r0) : G X (QM mkV X r0) S 0 [(0, .ref (ad X 6)), (1, .int a1), (2, .int a2), (3, .int a3), (4, .int a4)] [] := by
  unfold f_X8_stage_b0 at h
  refine g_aload_n (pc := 0) C dX8_stage_0 rfl 0 rfl ?_
  refine g_callV (pc := 1) C 6 (c_X8_areFull (Xl X) (Xb X) S) gX8_stage_X8_areFull rfl rfl rfl hd_X8_areFull ⟨Nat.le_of_ble_eq_true rfl, Nat.le_of_ble_eq_true rfl⟩ (w_6 _ _) rfl rfl rfl (Nat.le_of_ble_eq_true rfl) dX8_stage_1 h (fun r2 S1 h => ?_)
  change G X _ S1 4 [(0, .ref (ad X 6)), (1, .int a1), (2, .int a2), (3, .int a3), (4, .int a4)] [.int r2]
  refine g_if_eq (pc := 4) (tgt := 8) C h dX8_stage_4 (by decide) (fun h => ?_) (fun h => ?_)
  · refine g_aload_n (pc := 8) C dX8_stage_8 rfl 0 rfl ?_
    refine g_get (pc := 9) C 6 (w_6 _ _) rfl 0 (Nat.le_of_ble_eq_true rfl) in_X8_X8_stage k13_X8_stage rfl dX8_stage_9 ?_
    refine g_iconst (pc := 12) (v := 0) C dX8_stage_12 (by decide) ?_
    refine g_aaldc (pc := 13) (i := 0) C 25 26 (w_25 _ _) rfl rfl dX8_stage_13 ?_
    refine g_aload_n (pc := 14) C dX8_stage_14 rfl 0 rfl ?_
    refine g_get (pc := 15) C 6 (w_6 _ _) rfl 3 (Nat.le_of_ble_eq_true rfl) in_X8_X8_stage k30_X8_stage rfl dX8_stage_15 ?_
    refine g_iload_n (pc := 18) C dX8_stage_18 rfl 1 rfl ?_
    refine g_iast (pc := 19) C 26 (w_26 _ _) (ws_26 _ _) h dX8_stage_19 (fun S3 h => ?_)
    refine g_aload_n (pc := 20) C dX8_stage_20 rfl 0 rfl ?_
    refine g_get (pc := 21) C 6 (w_6 _ _) rfl 0 (Nat.le_of_ble_eq_true rfl) in_X8_X8_stage k13_X8_stage rfl dX8_stage_21 ?_
    refine g_iconst (pc := 24) (v := 1) C dX8_stage_24 (by decide) ?_
    refine g_aaldc (pc := 25) (i := 1) C 25 27 (w_25 _ _) rfl rfl dX8_stage_25 ?_
    refine g_aload_n (pc := 26) C dX8_stage_26 rfl 0 rfl ?_
    refine g_get (pc := 27) C 6 (w_6 _ _) rfl 3 (Nat.le_of_ble_eq_true rfl) in_X8_X8_stage k30_X8_stage rfl dX8_stage_27 ?_
    refine g_iload_n (pc := 30) C dX8_stage_30 rfl 2 rfl ?_
    refine g_iast (pc := 31) C 27 (w_27 _ _) (ws_27 _ _) h dX8_stage_31 (fun S4 h => ?_)
    refine g_aload_n (pc := 32) C dX8_stage_32 rfl 0 rfl ?_
    refine g_get (pc := 33) C 6 (w_6 _ _) rfl 0 (Nat.le_of_ble_eq_true rfl) in_X8_X8_stage k13_X8_stage rfl dX8_stage_33 ?_
    refine g_iconst (pc := 36) (v := 2) C dX8_stage_36 (by decide) ?_
    refine g_aaldc (pc := 37) (i := 2) C 25 28 (w_25 _ _) rfl rfl dX8_stage_37 ?_
    refine g_aload_n (pc := 38) C dX8_stage_38 rfl 0 rfl ?_
    refine g_get (pc := 39) C 6 (w_6 _ _) rfl 3 (Nat.le_of_ble_eq_true rfl) in_X8_X8_stage k30_X8_stage rfl dX8_stage_39 ?_
    refine g_iload_n (pc := 42) C dX8_stage_42 rfl 3 rfl ?_
    refine g_iast (pc := 43) C 28 (w_28 _ _) (ws_28 _ _) h dX8_stage_43 (fun S5 h => ?_)
    refine g_aload_n (pc := 44) C dX8_stage_44 rfl 0 rfl ?_
    refine g_get (pc := 45) C 6 (w_6 _ _) rfl 0 (Nat.le_of_ble_eq_true rfl) in_X8_X8_stage k13_X8_stage rfl dX8_stage_45 ?_
    refine g_iconst (pc := 48) (v := 3) C dX8_stage_48 (by decide) ?_
    refine g_aaldc (pc := 49) (i := 3) C 25 29 (w_25 _ _) rfl rfl dX8_stage_49 ?_
    refine g_aload_n (pc := 50) C dX8_stage_50 rfl 0 rfl ?_
    refine g_get (pc := 51) C 6 (w_6 _ _) rfl 3 (Nat.le_of_ble_eq_true rfl) in_X8_X8_stage k30_X8_stage rfl dX8_stage_51 ?_
    refine g_iload (pc := 54) C dX8_stage_54 4 rfl ?_
    refine g_iast (pc := 56) C 29 (w_29 _ _) (ws_29 _ _) h dX8_stage_56 (fun S6 h => ?_)
    refine g_aload_n (pc := 57) C dX8_stage_57 rfl 0 rfl ?_
    refine g_dup (pc := 58) C dX8_stage_58 rfl ?_
    refine g_get (pc := 59) C 6 (w_6 _ _) rfl 3 (Nat.le_of_ble_eq_true rfl) in_X8_X8_stage k30_X8_stage rfl dX8_stage_59 ?_
    refine g_iconst (pc := 62) (v := 1) C dX8_stage_62 (by decide) ?_
    refine g_iadd (pc := 63) C dX8_stage_63 ?_
    refine g_put (pc := 64) C 6 (w_6 _ _) rfl 3 (Nat.le_of_ble_eq_true rfl) in_X8_X8_stage tyX8_ok nmX8 k30_X8_stage rfl rfl rfl (Nat.le_of_ble_eq_true rfl) (ws_6_3 _ _ _) dX8_stage_64 h (fun S7 h => ?_)
    exact g_vret (pc := 67) C h dX8_stage_67
  · exact g_vret (pc := 7) C h dX8_stage_7
theorem c_X8_stage (l : Launch) (b : Bw) (a1 : Int32) (a2 : Int32) (a3 : Int32) (a4 : Int32) (S : St) : Ct l b yX8_stage wsX8_stage rmX8_stage [.ref (bad b 6), .int a1, .int a2, .int a3, .int a4] S mkV (f_X8_stage a1 a2 a3 a4 S) := Ct.of (by decide +kernel) rfl (Nat.le_of_ble_eq_true rfl) (fun X C hl hb r h => by
  subst hl; subst hb
  exact s_X8_stage_b0 C a1 a2 a3 a4 S h)
/-! StyleRows$Reader.takeRule(LStyleRows$Tape;LStyleRows$Rules;)Z -/
set_option maxRecDepth 100000 in
set_option maxHeartbeats 4000000 in
theorem s_X7_takeRule_b128 {X : MC} (C : Cx X cX7_takeRule RX7 wsX7_takeRule 7 rmX7_takeRule (some .boolean)) (v3 : Int32) (v4 : Int32) (v5 : Int32) (v6 : Int32) (S : St) {r0 : Int32 × St} (h : f_X7_takeRule_b128 v3 v4 v5 v6 S = some r0) : G X (QM mkI X r0) S 128 [(0, .ref (ad X 7)), (1, .ref (ad X 5)), (2, .ref (ad X 6)), (3, .int v3), (4, .int v4), (5, .int v5), (6, .int v6)] [] := by
  unfold f_X7_takeRule_b128 at h
  refine g_aload_n (pc := 128) C dX7_takeRule_128 rfl 1 rfl ?_
  refine g_aload_n (pc := 129) C dX7_takeRule_129 rfl 0 rfl ?_
  refine g_get (pc := 130) C 7 (w_7 _ _) rfl 0 (Nat.le_of_ble_eq_true rfl) in_X7_X7_takeRule k31_X7_takeRule rfl dX7_takeRule_130 ?_
  refine g_callV (pc := 133) C 5 (c_X10_at (Xl X) (Xb X) (gI S 8) S) gX7_takeRule_X10_at rfl rfl rfl hd_X10_at ⟨Nat.le_of_ble_eq_true rfl, Nat.le_of_ble_eq_true rfl⟩ (w_5 _ _) rfl rfl rfl (Nat.le_of_ble_eq_true rfl) dX7_takeRule_133 h (fun r14 S13 h => ?_)
  change G X _ S13 136 [(0, .ref (ad X 7)), (1, .ref (ad X 5)), (2, .ref (ad X 6)), (3, .int v3), (4, .int v4), (5, .int v5), (6, .int v6)] [.int r14]
  refine g_bipush (pc := 136) (v := 59) C dX7_takeRule_136 (by decide) ?_
  refine g_icmp_eq (pc := 138) (tgt := 143) C h dX7_takeRule_138 (by decide) (fun h => ?_) (fun h => ?_)
  · refine g_aload_n (pc := 143) C dX7_takeRule_143 rfl 0 rfl ?_
    refine g_aload_n (pc := 144) C dX7_takeRule_144 rfl 1 rfl ?_
    refine g_callV (pc := 145) C 7 (c_X7_takePiece (Xl X) (Xb X) S13) gX7_takeRule_X7_takePiece rfl rfl rfl hd_X7_takePiece ⟨Nat.le_of_ble_eq_true rfl, Nat.le_of_ble_eq_true rfl⟩ (w_7 _ _) rfl rfl rfl (Nat.le_of_ble_eq_true rfl) dX7_takeRule_145 h (fun _u15 S15 h => ?_)
    change G X _ S15 148 [(0, .ref (ad X 7)), (1, .ref (ad X 5)), (2, .ref (ad X 6)), (3, .int v3), (4, .int v4), (5, .int v5), (6, .int v6)] []
    refine g_aload_n (pc := 148) C dX7_takeRule_148 rfl 2 rfl ?_
    refine g_iload_n (pc := 149) C dX7_takeRule_149 rfl 3 rfl ?_
    refine g_iload (pc := 150) C dX7_takeRule_150 5 rfl ?_
    refine g_iload (pc := 152) C dX7_takeRule_152 6 rfl ?_
    refine g_iload (pc := 154) C dX7_takeRule_154 4 rfl ?_
    refine g_callV (pc := 156) C 6 (c_X8_stage (Xl X) (Xb X) v3 v5 v6 v4 S15) gX7_takeRule_X8_stage rfl rfl rfl hd_X8_stage ⟨Nat.le_of_ble_eq_true rfl, Nat.le_of_ble_eq_true rfl⟩ (w_6 _ _) rfl rfl rfl (Nat.le_of_ble_eq_true rfl) dX7_takeRule_156 h (fun _u16 S16 h => ?_)
    change G X _ S16 159 [(0, .ref (ad X 7)), (1, .ref (ad X 5)), (2, .ref (ad X 6)), (3, .int v3), (4, .int v4), (5, .int v5), (6, .int v6)] []
    refine g_iconst (pc := 159) (v := 1) C dX7_takeRule_159 (by decide) ?_
    exact g_zretc (pc := 160) C rfl h dX7_takeRule_160
  · refine g_iconst (pc := 141) (v := 0) C dX7_takeRule_141 (by decide) ?_
    exact g_zretc (pc := 142) C rfl h dX7_takeRule_142
set_option maxRecDepth 100000 in
set_option maxHeartbeats 4000000 in
theorem s_X7_takeRule_b46 {X : MC} (C : Cx X cX7_takeRule RX7 wsX7_takeRule 7 rmX7_takeRule (some .boolean)) (v3 : Int32) (v4 : Int32) (S : St) {r0 : Int32 × St} (h : f_X7_takeRule_b46 v3 v4 S = some r0) : G X (QM mkI X r0) S 46 [(0, .ref (ad X 7)), (1, .ref (ad X 5)), (2, .ref (ad X 6)), (3, .int v3), (4, .int v4)] [] := by
  unfold f_X7_takeRule_b46 at h
  refine g_aload_n (pc := 46) C dX7_takeRule_46 rfl 0 rfl ?_
  refine g_aload_n (pc := 47) C dX7_takeRule_47 rfl 1 rfl ?_
  refine g_callV (pc := 48) C 7 (c_X7_nameThere (Xl X) (Xb X) S) gX7_takeRule_X7_nameThere rfl rfl rfl hd_X7_nameThere ⟨Nat.le_of_ble_eq_true rfl, Nat.le_of_ble_eq_true rfl⟩ (w_7 _ _) rfl rfl rfl (Nat.le_of_ble_eq_true rfl) dX7_takeRule_48 h (fun r6 S5 h => ?_)
  change G X _ S5 51 [(0, .ref (ad X 7)), (1, .ref (ad X 5)), (2, .ref (ad X 6)), (3, .int v3), (4, .int v4)] [.int r6]
  refine g_istore (pc := 51) C [(5, .int r6), (0, .ref (ad X 7)), (1, .ref (ad X 5)), (2, .ref (ad X 6)), (3, .int v3), (4, .int v4)] dX7_takeRule_51 (Nat.le_of_ble_eq_true rfl) rfl ?_
  refine g_iload (pc := 53) C dX7_takeRule_53 0 rfl ?_
  refine g_iconst (pc := 55) (v := (-1)) C dX7_takeRule_55 (by decide) ?_
  refine g_icmp_ne (pc := 56) (tgt := 61) C h dX7_takeRule_56 (by decide) (fun h => ?_) (fun h => ?_)
  · refine g_aload_n (pc := 61) C dX7_takeRule_61 rfl 1 rfl ?_
    refine g_aload_n (pc := 62) C dX7_takeRule_62 rfl 2 rfl ?_
    refine g_callV (pc := 63) C 7 (c_X7_takePiece (Xl X) (Xb X) S5) gX7_takeRule_X7_takePiece rfl rfl rfl hd_X7_takePiece ⟨Nat.le_of_ble_eq_true rfl, Nat.le_of_ble_eq_true rfl⟩ (w_7 _ _) rfl rfl rfl (Nat.le_of_ble_eq_true rfl) dX7_takeRule_63 h (fun _u7 S7 h => ?_)
    change G X _ S7 66 [(5, .int r6), (0, .ref (ad X 7)), (1, .ref (ad X 5)), (2, .ref (ad X 6)), (3, .int v3), (4, .int v4)] []
    refine g_aload_n (pc := 66) C dX7_takeRule_66 rfl 1 rfl ?_
    refine g_aload_n (pc := 67) C dX7_takeRule_67 rfl 2 rfl ?_
    refine g_getsN (pc := 68) C 1 (Nat.le_of_ble_eq_true rfl) nw_X7_55 dX7_takeRule_68 ?_
    refine g_iload (pc := 71) C dX7_takeRule_71 0 rfl ?_
    refine g_tld (pc := 73) C 1 (Nat.le_of_ble_eq_true rfl) h dX7_takeRule_73 (fun h => ?_)
    refine g_getsN (pc := 74) C 2 (Nat.le_of_ble_eq_true rfl) nw_X7_61 dX7_takeRule_74 ?_
    refine g_iload (pc := 77) C dX7_takeRule_77 0 rfl ?_
    refine g_tld (pc := 79) C 2 (Nat.le_of_ble_eq_true rfl) h dX7_takeRule_79 (fun h => ?_)
    refine g_callV (pc := 80) C 7 (c_X7_takeNumber (Xl X) (Xb X) (tbr 1 r6) (tbr 2 r6) S7) gX7_takeRule_X7_takeNumber rfl rfl rfl hd_X7_takeNumber ⟨Nat.le_of_ble_eq_true rfl, Nat.le_of_ble_eq_true rfl⟩ (w_7 _ _) rfl rfl rfl (Nat.le_of_ble_eq_true rfl) dX7_takeRule_80 h (fun r9 S8 h => ?_)
    change G X _ S8 83 [(5, .int r6), (0, .ref (ad X 7)), (1, .ref (ad X 5)), (2, .ref (ad X 6)), (3, .int v3), (4, .int v4)] [.int r9]
    refine g_if_ne (pc := 83) (tgt := 88) C h dX7_takeRule_83 (by decide) (fun h => ?_) (fun h => ?_)
    · refine g_aload_n (pc := 88) C dX7_takeRule_88 rfl 1 rfl ?_
      refine g_get (pc := 89) C 7 (w_7 _ _) rfl 3 (Nat.le_of_ble_eq_true rfl) in_X7_X7_takeRule k48_X7_takeRule rfl dX7_takeRule_89 ?_
      refine g_leti h (fun x10 h => ?_)
      refine g_istore (pc := 92) C [(6, .int x10), (5, .int r6), (0, .ref (ad X 7)), (1, .ref (ad X 5)), (2, .ref (ad X 6)), (3, .int v3), (4, .int v4)] dX7_takeRule_92 (Nat.le_of_ble_eq_true rfl) rfl ?_
      refine g_aload_n (pc := 94) C dX7_takeRule_94 rfl 2 rfl ?_
      refine g_aload_n (pc := 95) C dX7_takeRule_95 rfl 3 rfl ?_
      refine g_ldcS (pc := 96) C sr_X7_64 dX7_takeRule_96 ?_
      refine g_callV (pc := 98) C 7 (c_X7_isWord (Xl X) (Xb X) 15 S8) gX7_takeRule_X7_isWord rfl rfl rfl hd_X7_isWord ⟨Nat.le_of_ble_eq_true rfl, Nat.le_of_ble_eq_true rfl⟩ (w_7 _ _) rfl rfl rfl (Nat.le_of_ble_eq_true rfl) dX7_takeRule_98 h (fun r12 S11 h => ?_)
      change G X _ S11 101 [(6, .int x10), (5, .int r6), (0, .ref (ad X 7)), (1, .ref (ad X 5)), (2, .ref (ad X 6)), (3, .int v3), (4, .int v4)] [.int r12]
      refine g_if_eq (pc := 101) (tgt := 128) C h dX7_takeRule_101 (by decide) (fun h => ?_) (fun h => ?_)
      · refine g_weak (lv1 := [(0, .ref (ad X 7)), (1, .ref (ad X 5)), (2, .ref (ad X 6)), (3, .int v3), (4, .int v4), (5, .int r6), (6, .int x10)]) [2, 3, 4, 5, 6, 1, 0] rfl ?_
        exact s_X7_takeRule_b128 C v3 v4 r6 x10  S11 h
      · refine g_aload_n (pc := 104) C dX7_takeRule_104 rfl 2 rfl ?_
        refine g_aload_n (pc := 105) C dX7_takeRule_105 rfl 3 rfl ?_
        refine g_callV (pc := 106) C 7 (c_X7_takePiece (Xl X) (Xb X) S11) gX7_takeRule_X7_takePiece rfl rfl rfl hd_X7_takePiece ⟨Nat.le_of_ble_eq_true rfl, Nat.le_of_ble_eq_true rfl⟩ (w_7 _ _) rfl rfl rfl (Nat.le_of_ble_eq_true rfl) dX7_takeRule_106 h (fun _u17 S17 h => ?_)
        change G X _ S17 109 [(6, .int x10), (5, .int r6), (0, .ref (ad X 7)), (1, .ref (ad X 5)), (2, .ref (ad X 6)), (3, .int v3), (4, .int v4)] []
        refine g_aload_n (pc := 109) C dX7_takeRule_109 rfl 2 rfl ?_
        refine g_aload_n (pc := 110) C dX7_takeRule_110 rfl 3 rfl ?_
        refine g_iconst (pc := 111) (v := 0) C dX7_takeRule_111 (by decide) ?_
        refine g_bipush (pc := 112) (v := 9) C dX7_takeRule_112 (by decide) ?_
        refine g_callV (pc := 114) C 7 (c_X7_takeNumber (Xl X) (Xb X) 0 9 S17) gX7_takeRule_X7_takeNumber rfl rfl rfl hd_X7_takeNumber ⟨Nat.le_of_ble_eq_true rfl, Nat.le_of_ble_eq_true rfl⟩ (w_7 _ _) rfl rfl rfl (Nat.le_of_ble_eq_true rfl) dX7_takeRule_114 h (fun r19 S18 h => ?_)
        change G X _ S18 117 [(6, .int x10), (5, .int r6), (0, .ref (ad X 7)), (1, .ref (ad X 5)), (2, .ref (ad X 6)), (3, .int v3), (4, .int v4)] [.int r19]
        refine g_if_ne (pc := 117) (tgt := 122) C h dX7_takeRule_117 (by decide) (fun h => ?_) (fun h => ?_)
        · refine g_aload_n (pc := 122) C dX7_takeRule_122 rfl 2 rfl ?_
          refine g_get (pc := 123) C 7 (w_7 _ _) rfl 3 (Nat.le_of_ble_eq_true rfl) in_X7_X7_takeRule k48_X7_takeRule rfl dX7_takeRule_123 ?_
          refine g_leti h (fun x20 h => ?_)
          refine g_istore (pc := 126) C [(4, .int x20), (6, .int x10), (5, .int r6), (0, .ref (ad X 7)), (1, .ref (ad X 5)), (2, .ref (ad X 6)), (3, .int v3)] dX7_takeRule_126 (Nat.le_of_ble_eq_true rfl) rfl ?_
          refine g_weak (lv1 := [(0, .ref (ad X 7)), (1, .ref (ad X 5)), (2, .ref (ad X 6)), (3, .int v3), (4, .int x20), (5, .int r6), (6, .int x10)]) [3, 4, 5, 6, 0, 2, 1] rfl ?_
          exact s_X7_takeRule_b128 C v3 x20 r6 x10  S18 h
        · refine g_iconst (pc := 120) (v := 0) C dX7_takeRule_120 (by decide) ?_
          exact g_zretc (pc := 121) C rfl h dX7_takeRule_121
    · refine g_iconst (pc := 86) (v := 0) C dX7_takeRule_86 (by decide) ?_
      exact g_zretc (pc := 87) C rfl h dX7_takeRule_87
  · refine g_iconst (pc := 59) (v := 0) C dX7_takeRule_59 (by decide) ?_
    exact g_zretc (pc := 60) C rfl h dX7_takeRule_60
set_option maxRecDepth 100000 in
set_option maxHeartbeats 4000000 in
theorem s_X7_takeRule_b0 {X : MC} (C : Cx X cX7_takeRule RX7 wsX7_takeRule 7 rmX7_takeRule (some .boolean)) (S : St) {r0 : Int32 × St} (h : f_X7_takeRule_b0 S = some r0) : G X (QM mkI X r0) S 0 [(0, .ref (ad X 7)), (1, .ref (ad X 5)), (2, .ref (ad X 6))] [] := by
  unfold f_X7_takeRule_b0 at h
  refine g_iconst (pc := 0) (v := (-1)) C dX7_takeRule_0 (by decide) ?_
  refine g_istore_n (pc := 1) C [(3, .int (-1)), (0, .ref (ad X 7)), (1, .ref (ad X 5)), (2, .ref (ad X 6))] dX7_takeRule_1 rfl (Nat.le_of_ble_eq_true rfl) rfl ?_
  refine g_iconst (pc := 2) (v := 0) C dX7_takeRule_2 (by decide) ?_
  refine g_istore (pc := 3) C [(4, .int 0), (3, .int (-1)), (0, .ref (ad X 7)), (1, .ref (ad X 5)), (2, .ref (ad X 6))] dX7_takeRule_3 (Nat.le_of_ble_eq_true rfl) rfl ?_
  refine g_aload_n (pc := 5) C dX7_takeRule_5 rfl 4 rfl ?_
  refine g_callV (pc := 6) C 6 (c_X8_areFull (Xl X) (Xb X) S) gX7_takeRule_X8_areFull rfl rfl rfl hd_X8_areFull ⟨Nat.le_of_ble_eq_true rfl, Nat.le_of_ble_eq_true rfl⟩ (w_6 _ _) rfl rfl rfl (Nat.le_of_ble_eq_true rfl) dX7_takeRule_6 h (fun r2 S1 h => ?_)
  change G X _ S1 9 [(4, .int 0), (3, .int (-1)), (0, .ref (ad X 7)), (1, .ref (ad X 5)), (2, .ref (ad X 6))] [.int r2]
  refine g_if_eq (pc := 9) (tgt := 14) C h dX7_takeRule_9 (by decide) (fun h => ?_) (fun h => ?_)
  · refine g_aload_n (pc := 14) C dX7_takeRule_14 rfl 2 rfl ?_
    refine g_aload_n (pc := 15) C dX7_takeRule_15 rfl 3 rfl ?_
    refine g_ldcS (pc := 16) C sr_X7_38 dX7_takeRule_16 ?_
    refine g_callV (pc := 18) C 7 (c_X7_isWord (Xl X) (Xb X) 14 S1) gX7_takeRule_X7_isWord rfl rfl rfl hd_X7_isWord ⟨Nat.le_of_ble_eq_true rfl, Nat.le_of_ble_eq_true rfl⟩ (w_7 _ _) rfl rfl rfl (Nat.le_of_ble_eq_true rfl) dX7_takeRule_18 h (fun r4 S3 h => ?_)
    change G X _ S3 21 [(4, .int 0), (3, .int (-1)), (0, .ref (ad X 7)), (1, .ref (ad X 5)), (2, .ref (ad X 6))] [.int r4]
    refine g_if_eq (pc := 21) (tgt := 46) C h dX7_takeRule_21 (by decide) (fun h => ?_) (fun h => ?_)
    · refine g_weak (lv1 := [(0, .ref (ad X 7)), (1, .ref (ad X 5)), (2, .ref (ad X 6)), (3, .int (-1)), (4, .int 0)]) [2, 3, 4, 1, 0] rfl ?_
      exact s_X7_takeRule_b46 C (-1) 0  S3 h
    · refine g_aload_n (pc := 24) C dX7_takeRule_24 rfl 2 rfl ?_
      refine g_aload_n (pc := 25) C dX7_takeRule_25 rfl 3 rfl ?_
      refine g_callV (pc := 26) C 7 (c_X7_takePiece (Xl X) (Xb X) S3) gX7_takeRule_X7_takePiece rfl rfl rfl hd_X7_takePiece ⟨Nat.le_of_ble_eq_true rfl, Nat.le_of_ble_eq_true rfl⟩ (w_7 _ _) rfl rfl rfl (Nat.le_of_ble_eq_true rfl) dX7_takeRule_26 h (fun _u21 S21 h => ?_)
      change G X _ S21 29 [(4, .int 0), (3, .int (-1)), (0, .ref (ad X 7)), (1, .ref (ad X 5)), (2, .ref (ad X 6))] []
      refine g_aload_n (pc := 29) C dX7_takeRule_29 rfl 2 rfl ?_
      refine g_aload_n (pc := 30) C dX7_takeRule_30 rfl 3 rfl ?_
      refine g_iconst (pc := 31) (v := 0) C dX7_takeRule_31 (by decide) ?_
      refine g_iconst (pc := 32) (v := 3) C dX7_takeRule_32 (by decide) ?_
      refine g_callV (pc := 33) C 7 (c_X7_takeNumber (Xl X) (Xb X) 0 3 S21) gX7_takeRule_X7_takeNumber rfl rfl rfl hd_X7_takeNumber ⟨Nat.le_of_ble_eq_true rfl, Nat.le_of_ble_eq_true rfl⟩ (w_7 _ _) rfl rfl rfl (Nat.le_of_ble_eq_true rfl) dX7_takeRule_33 h (fun r23 S22 h => ?_)
      change G X _ S22 36 [(4, .int 0), (3, .int (-1)), (0, .ref (ad X 7)), (1, .ref (ad X 5)), (2, .ref (ad X 6))] [.int r23]
      refine g_if_ne (pc := 36) (tgt := 41) C h dX7_takeRule_36 (by decide) (fun h => ?_) (fun h => ?_)
      · refine g_aload_n (pc := 41) C dX7_takeRule_41 rfl 2 rfl ?_
        refine g_get (pc := 42) C 7 (w_7 _ _) rfl 3 (Nat.le_of_ble_eq_true rfl) in_X7_X7_takeRule k48_X7_takeRule rfl dX7_takeRule_42 ?_
        refine g_leti h (fun x24 h => ?_)
        refine g_istore_n (pc := 45) C [(3, .int x24), (4, .int 0), (0, .ref (ad X 7)), (1, .ref (ad X 5)), (2, .ref (ad X 6))] dX7_takeRule_45 rfl (Nat.le_of_ble_eq_true rfl) rfl ?_
        refine g_weak (lv1 := [(0, .ref (ad X 7)), (1, .ref (ad X 5)), (2, .ref (ad X 6)), (3, .int x24), (4, .int 0)]) [2, 3, 4, 0, 1] rfl ?_
        exact s_X7_takeRule_b46 C x24 0  S22 h
      · refine g_iconst (pc := 39) (v := 0) C dX7_takeRule_39 (by decide) ?_
        exact g_zretc (pc := 40) C rfl h dX7_takeRule_40
  · refine g_iconst (pc := 12) (v := 0) C dX7_takeRule_12 (by decide) ?_
    exact g_zretc (pc := 13) C rfl h dX7_takeRule_13
theorem c_X7_takeRule (l : Launch) (b : Bw) (S : St) : Ct l b yX7_takeRule wsX7_takeRule rmX7_takeRule [.ref (bad b 7), .ref (bad b 5), .ref (bad b 6)] S mkI (f_X7_takeRule S) := Ct.of (by decide +kernel) rfl (Nat.le_of_ble_eq_true rfl) (fun X C hl hb r h => by
  subst hl; subst hb
  exact s_X7_takeRule_b0 C S h)
/-! StyleRows$Reader.findFault(LStyleRows$Tape;LStyleRows$Rules;)I -/
set_option maxRecDepth 100000 in
set_option maxHeartbeats 4000000 in
theorem s_X7_findFault_b16 {X : MC} (C : Cx X cX7_findFault RX7 wsX7_findFault 4 rmX7_findFault (some .int)) {rec16 : Int32 × St → Option (Int32 × St)} (v3 : Int32) (hrec16 : ∀ (s : Int32 × St) (r : Int32 × St), rec16 s = some r → G X (QM mkI X r) s.2 16 [(0, .ref (ad X 7)), (1, .ref (ad X 5)), (2, .ref (ad X 6)), (3, .int (s.1))] []) (S : St) {r0 : Int32 × St} (h : f_X7_findFault_b16 rec16 v3 S = some r0) : G X (QM mkI X r0) S 16 [(0, .ref (ad X 7)), (1, .ref (ad X 5)), (2, .ref (ad X 6)), (3, .int v3)] [] := by
  unfold f_X7_findFault_b16 at h
  refine g_iload_n (pc := 16) C dX7_findFault_16 rfl 3 rfl ?_
  refine g_bipush (pc := 17) (v := 24) C dX7_findFault_17 (by decide) ?_
  refine g_icmp_gt (pc := 19) (tgt := 51) C h dX7_findFault_19 (by decide) (fun h => ?_) (fun h => ?_)
  · refine g_aload_n (pc := 51) C dX7_findFault_51 rfl 0 rfl ?_
    refine g_get (pc := 52) C 7 (w_7 _ _) rfl 0 (Nat.le_of_ble_eq_true rfl) in_X7_X7_findFault k31_X7_findFault rfl dX7_findFault_52 ?_
    exact g_iret (pc := 55) C h dX7_findFault_55
  · refine g_aload_n (pc := 22) C dX7_findFault_22 rfl 0 rfl ?_
    refine g_get (pc := 23) C 7 (w_7 _ _) rfl 2 (Nat.le_of_ble_eq_true rfl) in_X7_X7_findFault k24_X7_findFault rfl dX7_findFault_23 ?_
    refine g_if_ne (pc := 26) (tgt := 31) C h dX7_findFault_26 (by decide) (fun h => ?_) (fun h => ?_)
    · refine g_aload_n (pc := 31) C dX7_findFault_31 rfl 0 rfl ?_
      refine g_aload_n (pc := 32) C dX7_findFault_32 rfl 1 rfl ?_
      refine g_aload_n (pc := 33) C dX7_findFault_33 rfl 2 rfl ?_
      refine g_callV (pc := 34) C 7 (c_X7_takeRule (Xl X) (Xb X) S) gX7_findFault_X7_takeRule rfl rfl rfl hd_X7_takeRule ⟨Nat.le_of_ble_eq_true rfl, Nat.le_of_ble_eq_true rfl⟩ (w_7 _ _) rfl rfl rfl (Nat.le_of_ble_eq_true rfl) dX7_findFault_34 h (fun r5 S4 h => ?_)
      change G X _ S4 37 [(0, .ref (ad X 7)), (1, .ref (ad X 5)), (2, .ref (ad X 6)), (3, .int v3)] [.int r5]
      refine g_if_ne (pc := 37) (tgt := 45) C h dX7_findFault_37 (by decide) (fun h => ?_) (fun h => ?_)
      · refine g_iinc (pc := 45) (v := v3 + 1) C [(3, .int (v3 + 1)), (0, .ref (ad X 7)), (1, .ref (ad X 5)), (2, .ref (ad X 6))] dX7_findFault_45 3 rfl rfl (Nat.le_of_ble_eq_true rfl) rfl ?_
        refine g_goto (pc := 48) (tgt := 16) C dX7_findFault_48 (by decide) ?_
        refine g_weak (lv1 := [(0, .ref (ad X 7)), (1, .ref (ad X 5)), (2, .ref (ad X 6)), (3, .int (v3 + 1))]) [1, 2, 3, 0] rfl ?_
        exact hrec16 (v3 + 1, S4) _ h
      · refine g_aload_n (pc := 40) C dX7_findFault_40 rfl 0 rfl ?_
        refine g_get (pc := 41) C 7 (w_7 _ _) rfl 0 (Nat.le_of_ble_eq_true rfl) in_X7_X7_findFault k31_X7_findFault rfl dX7_findFault_41 ?_
        exact g_iret (pc := 44) C h dX7_findFault_44
    · refine g_iconst (pc := 29) (v := (-1)) C dX7_findFault_29 (by decide) ?_
      exact g_iret (pc := 30) C h dX7_findFault_30
set_option maxRecDepth 100000 in
set_option maxHeartbeats 4000000 in
theorem s_X7_findFault_l16 {X : MC} (C : Cx X cX7_findFault RX7 wsX7_findFault 4 rmX7_findFault (some .int)) : ∀ (n : Nat) (s : Int32 × St) (r : Int32 × St), f_X7_findFault_l16 n s = some r → G X (QM mkI X r) s.2 16 [(0, .ref (ad X 7)), (1, .ref (ad X 5)), (2, .ref (ad X 6)), (3, .int (s.1))] [] :=
  loop_sound (fun rec16 hrec16 s r h => s_X7_findFault_b16 C s.1 hrec16 s.2 h)
set_option maxRecDepth 100000 in
set_option maxHeartbeats 4000000 in
theorem s_X7_findFault_b0 {X : MC} (C : Cx X cX7_findFault RX7 wsX7_findFault 4 rmX7_findFault (some .int)) (S : St) {r0 : Int32 × St} (h : f_X7_findFault_b0 S = some r0) : G X (QM mkI X r0) S 0 [(0, .ref (ad X 7)), (1, .ref (ad X 5)), (2, .ref (ad X 6))] [] := by
  unfold f_X7_findFault_b0 at h
  refine g_aload_n (pc := 0) C dX7_findFault_0 rfl 2 rfl ?_
  refine g_callV (pc := 1) C 6 (c_X8_dropStaged (Xl X) (Xb X) S) gX7_findFault_X8_dropStaged rfl rfl rfl hd_X8_dropStaged ⟨Nat.le_of_ble_eq_true rfl, Nat.le_of_ble_eq_true rfl⟩ (w_6 _ _) rfl rfl rfl (Nat.le_of_ble_eq_true rfl) dX7_findFault_1 h (fun _u1 S1 h => ?_)
  change G X _ S1 4 [(0, .ref (ad X 7)), (1, .ref (ad X 5)), (2, .ref (ad X 6))] []
  refine g_aload_n (pc := 4) C dX7_findFault_4 rfl 0 rfl ?_
  refine g_iconst (pc := 5) (v := 0) C dX7_findFault_5 (by decide) ?_
  refine g_put (pc := 6) C 7 (w_7 _ _) rfl 1 (Nat.le_of_ble_eq_true rfl) in_X7_X7_findFault tyX7_ok nmX7 k14_X7_findFault rfl rfl rfl (Nat.le_of_ble_eq_true rfl) (ws_7_1 _ _ _) dX7_findFault_6 h (fun S2 h => ?_)
  refine g_aload_n (pc := 9) C dX7_findFault_9 rfl 0 rfl ?_
  refine g_aload_n (pc := 10) C dX7_findFault_10 rfl 1 rfl ?_
  refine g_callV (pc := 11) C 7 (c_X7_takePiece (Xl X) (Xb X) S2) gX7_findFault_X7_takePiece rfl rfl rfl hd_X7_takePiece ⟨Nat.le_of_ble_eq_true rfl, Nat.le_of_ble_eq_true rfl⟩ (w_7 _ _) rfl rfl rfl (Nat.le_of_ble_eq_true rfl) dX7_findFault_11 h (fun _u3 S3 h => ?_)
  change G X _ S3 14 [(0, .ref (ad X 7)), (1, .ref (ad X 5)), (2, .ref (ad X 6))] []
  refine g_iconst (pc := 14) (v := 0) C dX7_findFault_14 (by decide) ?_
  refine g_istore_n (pc := 15) C [(3, .int 0), (0, .ref (ad X 7)), (1, .ref (ad X 5)), (2, .ref (ad X 6))] dX7_findFault_15 rfl (Nat.le_of_ble_eq_true rfl) rfl ?_
  refine g_weak (lv1 := [(0, .ref (ad X 7)), (1, .ref (ad X 5)), (2, .ref (ad X 6)), (3, .int 0)]) [1, 2, 3, 0] rfl ?_
  exact s_X7_findFault_l16 C  _ (0, S3) _ h
theorem c_X7_findFault (l : Launch) (b : Bw) (S : St) : Ct l b yX7_findFault wsX7_findFault rmX7_findFault [.ref (bad b 7), .ref (bad b 5), .ref (bad b 6)] S mkI (f_X7_findFault S) := Ct.of (by decide +kernel) rfl (Nat.le_of_ble_eq_true rfl) (fun X C hl hb r h => by
  subst hl; subst hb
  exact s_X7_findFault_b0 C S h)
/-! StyleRows$Rules.isOutrankedBy(II)Z -/
set_option maxRecDepth 100000 in
set_option maxHeartbeats 4000000 in
theorem s_X8_isOutrankedBy_b29 {X : MC} (C : Cx X cX8_isOutrankedBy RX8 wsX8_isOutrankedBy 3 rmX8_isOutrankedBy (some .boolean)) (w0 : Int32) (S : St) {r0 : Int32 × St} (h : f_X8_isOutrankedBy_b29 w0 S = some r0) : G X (QM mkI X r0) S 29 [] [.int w0] := by
  unfold f_X8_isOutrankedBy_b29 at h
  exact g_zret (pc := 29) C h dX8_isOutrankedBy_29
set_option maxRecDepth 100000 in
set_option maxHeartbeats 4000000 in
theorem s_X8_isOutrankedBy_b24 {X : MC} (C : Cx X cX8_isOutrankedBy RX8 wsX8_isOutrankedBy 3 rmX8_isOutrankedBy (some .boolean)) (S : St) {r0 : Int32 × St} (h : f_X8_isOutrankedBy_b24 S = some r0) : G X (QM mkI X r0) S 24 [] [] := by
  unfold f_X8_isOutrankedBy_b24 at h
  refine g_iconst (pc := 24) (v := 1) C dX8_isOutrankedBy_24 (by decide) ?_
  refine g_goto (pc := 25) (tgt := 29) C dX8_isOutrankedBy_25 (by decide) ?_
  refine g_weak (lv1 := []) [] rfl ?_
  exact s_X8_isOutrankedBy_b29 C 1  S h
set_option maxRecDepth 100000 in
set_option maxHeartbeats 4000000 in
theorem s_X8_isOutrankedBy_b0 {X : MC} (C : Cx X cX8_isOutrankedBy RX8 wsX8_isOutrankedBy 3 rmX8_isOutrankedBy (some .boolean)) (a1 : Int32) (a2 : Int32) (S : St) {r0 : Int32 × St} (h : f_X8_isOutrankedBy_b0 a1 a2 S = some r0) : G X (QM mkI X r0) S 0 [(0, .ref (ad X 6)), (1, .int a1), (2, .int a2)] [] := by
  unfold f_X8_isOutrankedBy_b0 at h
  refine g_iload_n (pc := 0) C dX8_isOutrankedBy_0 rfl 1 rfl ?_
  refine g_iconst (pc := 1) (v := (-1)) C dX8_isOutrankedBy_1 (by decide) ?_
  refine g_icmp_eq (pc := 2) (tgt := 24) C h dX8_isOutrankedBy_2 (by decide) (fun h => ?_) (fun h => ?_)
  · refine g_weak (lv1 := []) [] rfl ?_
    exact s_X8_isOutrankedBy_b24 C   S h
  · refine g_aload_n (pc := 5) C dX8_isOutrankedBy_5 rfl 0 rfl ?_
    refine g_get (pc := 6) C 6 (w_6 _ _) rfl 0 (Nat.le_of_ble_eq_true rfl) in_X8_X8_isOutrankedBy k13_X8_isOutrankedBy rfl dX8_isOutrankedBy_6 ?_
    refine g_iconst (pc := 9) (v := 3) C dX8_isOutrankedBy_9 (by decide) ?_
    refine g_aaldc (pc := 10) (i := 3) C 25 29 (w_25 _ _) rfl rfl dX8_isOutrankedBy_10 ?_
    refine g_iload_n (pc := 11) C dX8_isOutrankedBy_11 rfl 1 rfl ?_
    refine g_iald (pc := 12) C 29 (w_29 _ _) h dX8_isOutrankedBy_12 (fun h => ?_)
    refine g_aload_n (pc := 13) C dX8_isOutrankedBy_13 rfl 0 rfl ?_
    refine g_get (pc := 14) C 6 (w_6 _ _) rfl 0 (Nat.le_of_ble_eq_true rfl) in_X8_X8_isOutrankedBy k13_X8_isOutrankedBy rfl dX8_isOutrankedBy_14 ?_
    refine g_iconst (pc := 17) (v := 3) C dX8_isOutrankedBy_17 (by decide) ?_
    refine g_aaldc (pc := 18) (i := 3) C 25 29 (w_25 _ _) rfl rfl dX8_isOutrankedBy_18 ?_
    refine g_iload_n (pc := 19) C dX8_isOutrankedBy_19 rfl 2 rfl ?_
    refine g_iald (pc := 20) C 29 (w_29 _ _) h dX8_isOutrankedBy_20 (fun h => ?_)
    refine g_icmp_gt (pc := 21) (tgt := 28) C h dX8_isOutrankedBy_21 (by decide) (fun h => ?_) (fun h => ?_)
    · refine g_iconst (pc := 28) (v := 0) C dX8_isOutrankedBy_28 (by decide) ?_
      refine g_weak (lv1 := []) [] rfl ?_
      exact s_X8_isOutrankedBy_b29 C 0  S h
    · refine g_weak (lv1 := []) [] rfl ?_
      exact s_X8_isOutrankedBy_b24 C   S h
theorem c_X8_isOutrankedBy (l : Launch) (b : Bw) (a1 : Int32) (a2 : Int32) (S : St) : Ct l b yX8_isOutrankedBy wsX8_isOutrankedBy rmX8_isOutrankedBy [.ref (bad b 6), .int a1, .int a2] S mkI (f_X8_isOutrankedBy a1 a2 S) := Ct.of (by decide +kernel) rfl (Nat.le_of_ble_eq_true rfl) (fun X C hl hb r h => by
  subst hl; subst hb
  exact s_X8_isOutrankedBy_b0 C a1 a2 S h)
/-! StyleRows$Rules.letCount(I)V -/
set_option maxRecDepth 100000 in
set_option maxHeartbeats 4000000 in
theorem s_X8_letCount_b64 {X : MC} (C : Cx X cX8_letCount RX8 wsX8_letCount 5 rmX8_letCount none) {rec2 : Int32 × St → Option (Unit × St)} (v1 : Int32) (v2 : Int32) (hrec2 : ∀ (s : Int32 × St) (r : Unit × St), rec2 s = some r → G X (QM mkV X r) s.2 2 [(0, .ref (ad X 6)), (1, .int v1), (2, .int (s.1))] []) (S : St) {r0 : Unit × St} (h : f_X8_letCount_b64 rec2 v1 v2 S = some r0) : G X (QM mkV X r0) S 64 [(0, .ref (ad X 6)), (1, .int v1), (2, .int v2)] [] := by
  unfold f_X8_letCount_b64 at h
  refine g_iinc (pc := 64) (v := v2 + 1) C [(2, .int (v2 + 1)), (0, .ref (ad X 6)), (1, .int v1)] dX8_letCount_64 2 rfl rfl (Nat.le_of_ble_eq_true rfl) rfl ?_
  refine g_goto (pc := 67) (tgt := 2) C dX8_letCount_67 (by decide) ?_
  refine g_weak (lv1 := [(0, .ref (ad X 6)), (1, .int v1), (2, .int (v2 + 1))]) [1, 2, 0] rfl ?_
  exact hrec2 (v2 + 1, S) _ h
set_option maxRecDepth 100000 in
set_option maxHeartbeats 4000000 in
theorem s_X8_letCount_b41 {X : MC} (C : Cx X cX8_letCount RX8 wsX8_letCount 5 rmX8_letCount none) {rec2 : Int32 × St → Option (Unit × St)} (v1 : Int32) (v2 : Int32) (v4 : Int32) (hrec2 : ∀ (s : Int32 × St) (r : Unit × St), rec2 s = some r → G X (QM mkV X r) s.2 2 [(0, .ref (ad X 6)), (1, .int v1), (2, .int (s.1))] []) (S : St) {r0 : Unit × St} (h : f_X8_letCount_b41 rec2 v1 v2 v4 S = some r0) : G X (QM mkV X r0) S 41 [(0, .ref (ad X 6)), (1, .int v1), (2, .int v2), (4, .int v4)] [] := by
  unfold f_X8_letCount_b41 at h
  refine g_aload_n (pc := 41) C dX8_letCount_41 rfl 0 rfl ?_
  refine g_aload_n (pc := 42) C dX8_letCount_42 rfl 0 rfl ?_
  refine g_get (pc := 43) C 6 (w_6 _ _) rfl 1 (Nat.le_of_ble_eq_true rfl) in_X8_X8_letCount k18_X8_letCount rfl dX8_letCount_43 ?_
  refine g_iload (pc := 46) C dX8_letCount_46 3 rfl ?_
  refine g_iald (pc := 48) C 30 (w_30 _ _) h dX8_letCount_48 (fun h => ?_)
  refine g_iload_n (pc := 49) C dX8_letCount_49 rfl 1 rfl ?_
  refine g_callV (pc := 50) C 6 (c_X8_isOutrankedBy (Xl X) (Xb X) (rd S 30 v4) v1 S) gX8_letCount_X8_isOutrankedBy rfl rfl rfl hd_X8_isOutrankedBy ⟨Nat.le_of_ble_eq_true rfl, Nat.le_of_ble_eq_true rfl⟩ (w_6 _ _) rfl rfl rfl (Nat.le_of_ble_eq_true rfl) dX8_letCount_50 h (fun r4 S3 h => ?_)
  change G X _ S3 53 [(0, .ref (ad X 6)), (1, .int v1), (2, .int v2), (4, .int v4)] [.int r4]
  refine g_if_eq (pc := 53) (tgt := 64) C h dX8_letCount_53 (by decide) (fun h => ?_) (fun h => ?_)
  · refine g_weak (lv1 := [(0, .ref (ad X 6)), (1, .int v1), (2, .int v2)]) [0, 1, 2] rfl ?_
    exact s_X8_letCount_b64 C v1 v2 hrec2  S3 h
  · refine g_aload_n (pc := 56) C dX8_letCount_56 rfl 0 rfl ?_
    refine g_get (pc := 57) C 6 (w_6 _ _) rfl 1 (Nat.le_of_ble_eq_true rfl) in_X8_X8_letCount k18_X8_letCount rfl dX8_letCount_57 ?_
    refine g_iload (pc := 60) C dX8_letCount_60 3 rfl ?_
    refine g_iload_n (pc := 62) C dX8_letCount_62 rfl 1 rfl ?_
    refine g_iast (pc := 63) C 30 (w_30 _ _) (ws_30 _ _) h dX8_letCount_63 (fun S5 h => ?_)
    refine g_weak (lv1 := [(0, .ref (ad X 6)), (1, .int v1), (2, .int v2)]) [0, 1, 2] rfl ?_
    exact s_X8_letCount_b64 C v1 v2 hrec2  S5 h
set_option maxRecDepth 100000 in
set_option maxHeartbeats 4000000 in
theorem s_X8_letCount_b2 {X : MC} (C : Cx X cX8_letCount RX8 wsX8_letCount 5 rmX8_letCount none) {rec2 : Int32 × St → Option (Unit × St)} (v1 : Int32) (v2 : Int32) (hrec2 : ∀ (s : Int32 × St) (r : Unit × St), rec2 s = some r → G X (QM mkV X r) s.2 2 [(0, .ref (ad X 6)), (1, .int v1), (2, .int (s.1))] []) (S : St) {r0 : Unit × St} (h : f_X8_letCount_b2 rec2 v1 v2 S = some r0) : G X (QM mkV X r0) S 2 [(0, .ref (ad X 6)), (1, .int v1), (2, .int v2)] [] := by
  unfold f_X8_letCount_b2 at h
  refine g_iload_n (pc := 2) C dX8_letCount_2 rfl 2 rfl ?_
  refine g_iconst (pc := 3) (v := 4) C dX8_letCount_3 (by decide) ?_
  refine g_icmp_ge (pc := 4) (tgt := 70) C h dX8_letCount_4 (by decide) (fun h => ?_) (fun h => ?_)
  · exact g_vret (pc := 70) C h dX8_letCount_70
  · refine g_aload_n (pc := 7) C dX8_letCount_7 rfl 0 rfl ?_
    refine g_get (pc := 8) C 6 (w_6 _ _) rfl 0 (Nat.le_of_ble_eq_true rfl) in_X8_X8_letCount k13_X8_letCount rfl dX8_letCount_8 ?_
    refine g_iconst (pc := 11) (v := 0) C dX8_letCount_11 (by decide) ?_
    refine g_aaldc (pc := 12) (i := 0) C 25 26 (w_25 _ _) rfl rfl dX8_letCount_12 ?_
    refine g_iload_n (pc := 13) C dX8_letCount_13 rfl 1 rfl ?_
    refine g_iald (pc := 14) C 26 (w_26 _ _) h dX8_letCount_14 (fun h => ?_)
    refine g_leti h (fun x1 h => ?_)
    refine g_istore_n (pc := 15) C [(3, .int x1), (0, .ref (ad X 6)), (1, .int v1), (2, .int v2)] dX8_letCount_15 rfl (Nat.le_of_ble_eq_true rfl) rfl ?_
    refine g_iload_n (pc := 16) C dX8_letCount_16 rfl 3 rfl ?_
    refine g_bipush (pc := 17) (v := 13) C dX8_letCount_17 (by decide) ?_
    refine g_imul (pc := 19) C dX8_letCount_19 ?_
    refine g_aload_n (pc := 20) C dX8_letCount_20 rfl 1 rfl ?_
    refine g_get (pc := 21) C 6 (w_6 _ _) rfl 0 (Nat.le_of_ble_eq_true rfl) in_X8_X8_letCount k13_X8_letCount rfl dX8_letCount_21 ?_
    refine g_iconst (pc := 24) (v := 1) C dX8_letCount_24 (by decide) ?_
    refine g_aaldc (pc := 25) (i := 1) C 25 27 (w_25 _ _) rfl rfl dX8_letCount_25 ?_
    refine g_iload_n (pc := 26) C dX8_letCount_26 rfl 2 rfl ?_
    refine g_iald (pc := 27) C 27 (w_27 _ _) h dX8_letCount_27 (fun h => ?_)
    refine g_iadd (pc := 28) C dX8_letCount_28 ?_
    refine g_leti h (fun x2 h => ?_)
    refine g_istore (pc := 29) C [(4, .int x2), (3, .int x1), (0, .ref (ad X 6)), (1, .int v1), (2, .int v2)] dX8_letCount_29 (Nat.le_of_ble_eq_true rfl) rfl ?_
    refine g_iload_n (pc := 31) C dX8_letCount_31 rfl 1 rfl ?_
    refine g_iconst (pc := 32) (v := (-1)) C dX8_letCount_32 (by decide) ?_
    refine g_icmp_eq (pc := 33) (tgt := 41) C h dX8_letCount_33 (by decide) (fun h => ?_) (fun h => ?_)
    · refine g_weak (lv1 := [(0, .ref (ad X 6)), (1, .int v1), (2, .int v2), (4, .int x2)]) [2, 3, 4, 0] rfl ?_
      exact s_X8_letCount_b41 C v1 v2 x2 hrec2  S h
    · refine g_iload_n (pc := 36) C dX8_letCount_36 rfl 1 rfl ?_
      refine g_iload_n (pc := 37) C dX8_letCount_37 rfl 4 rfl ?_
      refine g_icmp_ne (pc := 38) (tgt := 64) C h dX8_letCount_38 (by decide) (fun h => ?_) (fun h => ?_)
      · refine g_weak (lv1 := [(0, .ref (ad X 6)), (1, .int v1), (2, .int v2)]) [2, 3, 4] rfl ?_
        exact s_X8_letCount_b64 C v1 v2 hrec2  S h
      · refine g_weak (lv1 := [(0, .ref (ad X 6)), (1, .int v1), (2, .int v2), (4, .int x2)]) [2, 3, 4, 0] rfl ?_
        exact s_X8_letCount_b41 C v1 v2 x2 hrec2  S h
set_option maxRecDepth 100000 in
set_option maxHeartbeats 4000000 in
theorem s_X8_letCount_l2 {X : MC} (C : Cx X cX8_letCount RX8 wsX8_letCount 5 rmX8_letCount none) (v1 : Int32) : ∀ (n : Nat) (s : Int32 × St) (r : Unit × St), f_X8_letCount_l2 v1 n s = some r → G X (QM mkV X r) s.2 2 [(0, .ref (ad X 6)), (1, .int v1), (2, .int (s.1))] [] :=
  loop_sound (fun rec2 hrec2 s r h => s_X8_letCount_b2 C v1 s.1 hrec2 s.2 h)
set_option maxRecDepth 100000 in
set_option maxHeartbeats 4000000 in
theorem s_X8_letCount_b0 {X : MC} (C : Cx X cX8_letCount RX8 wsX8_letCount 5 rmX8_letCount none) (a1 : Int32) (S : St) {r0 : Unit × St} (h : f_X8_letCount_b0 a1 S = some r0) : G X (QM mkV X r0) S 0 [(0, .ref (ad X 6)), (1, .int a1)] [] := by
  unfold f_X8_letCount_b0 at h
  refine g_iconst (pc := 0) (v := 0) C dX8_letCount_0 (by decide) ?_
  refine g_istore_n (pc := 1) C [(2, .int 0), (0, .ref (ad X 6)), (1, .int a1)] dX8_letCount_1 rfl (Nat.le_of_ble_eq_true rfl) rfl ?_
  refine g_weak (lv1 := [(0, .ref (ad X 6)), (1, .int a1), (2, .int 0)]) [1, 2, 0] rfl ?_
  exact s_X8_letCount_l2 C a1 _ (0, S) _ h
theorem c_X8_letCount (l : Launch) (b : Bw) (a1 : Int32) (S : St) : Ct l b yX8_letCount wsX8_letCount rmX8_letCount [.ref (bad b 6), .int a1] S mkV (f_X8_letCount a1 S) := Ct.of (by decide +kernel) rfl (Nat.le_of_ble_eq_true rfl) (fun X C hl hb r h => by
  subst hl; subst hb
  exact s_X8_letCount_b0 C a1 S h)
/-! StyleRows$Rules.keepStaged()I -/
set_option maxRecDepth 100000 in
set_option maxHeartbeats 4000000 in
theorem s_X8_keepStaged_b5 {X : MC} (C : Cx X cX8_keepStaged RX8 wsX8_keepStaged 2 rmX8_keepStaged (some .int)) {rec5 : Int32 × St → Option (Int32 × St)} (v1 : Int32) (hrec5 : ∀ (s : Int32 × St) (r : Int32 × St), rec5 s = some r → G X (QM mkI X r) s.2 5 [(0, .ref (ad X 6)), (1, .int (s.1))] []) (S : St) {r0 : Int32 × St} (h : f_X8_keepStaged_b5 rec5 v1 S = some r0) : G X (QM mkI X r0) S 5 [(0, .ref (ad X 6)), (1, .int v1)] [] := by
  unfold f_X8_keepStaged_b5 at h
  refine g_iload_n (pc := 5) C dX8_keepStaged_5 rfl 1 rfl ?_
  refine g_aload_n (pc := 6) C dX8_keepStaged_6 rfl 0 rfl ?_
  refine g_get (pc := 7) C 6 (w_6 _ _) rfl 3 (Nat.le_of_ble_eq_true rfl) in_X8_X8_keepStaged k30_X8_keepStaged rfl dX8_keepStaged_7 ?_
  refine g_icmp_ge (pc := 10) (tgt := 24) C h dX8_keepStaged_10 (by decide) (fun h => ?_) (fun h => ?_)
  · refine g_aload_n (pc := 24) C dX8_keepStaged_24 rfl 0 rfl ?_
    refine g_aload_n (pc := 25) C dX8_keepStaged_25 rfl 0 rfl ?_
    refine g_get (pc := 26) C 6 (w_6 _ _) rfl 3 (Nat.le_of_ble_eq_true rfl) in_X8_X8_keepStaged k30_X8_keepStaged rfl dX8_keepStaged_26 ?_
    refine g_put (pc := 29) C 6 (w_6 _ _) rfl 2 (Nat.le_of_ble_eq_true rfl) in_X8_X8_keepStaged tyX8_ok nmX8 k26_X8_keepStaged rfl rfl rfl (Nat.le_of_ble_eq_true rfl) (ws_6_2 _ _ _) dX8_keepStaged_29 h (fun S2 h => ?_)
    refine g_aload_n (pc := 32) C dX8_keepStaged_32 rfl 0 rfl ?_
    refine g_get (pc := 33) C 6 (w_6 _ _) rfl 2 (Nat.le_of_ble_eq_true rfl) in_X8_X8_keepStaged k26_X8_keepStaged rfl dX8_keepStaged_33 ?_
    exact g_iret (pc := 36) C h dX8_keepStaged_36
  · refine g_aload_n (pc := 13) C dX8_keepStaged_13 rfl 0 rfl ?_
    refine g_iload_n (pc := 14) C dX8_keepStaged_14 rfl 1 rfl ?_
    refine g_callV (pc := 15) C 6 (c_X8_letCount (Xl X) (Xb X) v1 S) gX8_keepStaged_X8_letCount rfl rfl rfl hd_X8_letCount ⟨Nat.le_of_ble_eq_true rfl, Nat.le_of_ble_eq_true rfl⟩ (w_6 _ _) rfl rfl rfl (Nat.le_of_ble_eq_true rfl) dX8_keepStaged_15 h (fun _u3 S3 h => ?_)
    change G X _ S3 18 [(0, .ref (ad X 6)), (1, .int v1)] []
    refine g_iinc (pc := 18) (v := v1 + 1) C [(1, .int (v1 + 1)), (0, .ref (ad X 6))] dX8_keepStaged_18 1 rfl rfl (Nat.le_of_ble_eq_true rfl) rfl ?_
    refine g_goto (pc := 21) (tgt := 5) C dX8_keepStaged_21 (by decide) ?_
    refine g_weak (lv1 := [(0, .ref (ad X 6)), (1, .int (v1 + 1))]) [1, 0] rfl ?_
    exact hrec5 (v1 + 1, S3) _ h
set_option maxRecDepth 100000 in
set_option maxHeartbeats 4000000 in
theorem s_X8_keepStaged_l5 {X : MC} (C : Cx X cX8_keepStaged RX8 wsX8_keepStaged 2 rmX8_keepStaged (some .int)) : ∀ (n : Nat) (s : Int32 × St) (r : Int32 × St), f_X8_keepStaged_l5 n s = some r → G X (QM mkI X r) s.2 5 [(0, .ref (ad X 6)), (1, .int (s.1))] [] :=
  loop_sound (fun rec5 hrec5 s r h => s_X8_keepStaged_b5 C s.1 hrec5 s.2 h)
set_option maxRecDepth 100000 in
set_option maxHeartbeats 4000000 in
theorem s_X8_keepStaged_b0 {X : MC} (C : Cx X cX8_keepStaged RX8 wsX8_keepStaged 2 rmX8_keepStaged (some .int)) (S : St) {r0 : Int32 × St} (h : f_X8_keepStaged_b0 S = some r0) : G X (QM mkI X r0) S 0 [(0, .ref (ad X 6))] [] := by
  unfold f_X8_keepStaged_b0 at h
  refine g_aload_n (pc := 0) C dX8_keepStaged_0 rfl 0 rfl ?_
  refine g_get (pc := 1) C 6 (w_6 _ _) rfl 2 (Nat.le_of_ble_eq_true rfl) in_X8_X8_keepStaged k26_X8_keepStaged rfl dX8_keepStaged_1 ?_
  refine g_leti h (fun x1 h => ?_)
  refine g_istore_n (pc := 4) C [(1, .int x1), (0, .ref (ad X 6))] dX8_keepStaged_4 rfl (Nat.le_of_ble_eq_true rfl) rfl ?_
  refine g_weak (lv1 := [(0, .ref (ad X 6)), (1, .int x1)]) [1, 0] rfl ?_
  exact s_X8_keepStaged_l5 C  _ (x1, S) _ h
theorem c_X8_keepStaged (l : Launch) (b : Bw) (S : St) : Ct l b yX8_keepStaged wsX8_keepStaged rmX8_keepStaged [.ref (bad b 6)] S mkI (f_X8_keepStaged S) := Ct.of (by decide +kernel) rfl (Nat.le_of_ble_eq_true rfl) (fun X C hl hb r h => by
  subst hl; subst hb
  exact s_X8_keepStaged_b0 C S h)
/-! StyleRows.read()I -/
set_option maxRecDepth 100000 in
set_option maxHeartbeats 4000000 in
theorem s_X11_read_b42 {X : MC} (C : Cx X cX11_read RX11 wsX11_read 2 rmX11_read (some .int)) (w0 : Int32) (S : St) {r0 : Int32 × St} (h : f_X11_read_b42 w0 S = some r0) : G X (QM mkI X r0) S 42 [] [.int w0] := by
  unfold f_X11_read_b42 at h
  exact g_iret (pc := 42) C h dX11_read_42
set_option maxRecDepth 100000 in
set_option maxHeartbeats 4000000 in
theorem s_X11_read_b0 {X : MC} (C : Cx X cX11_read RX11 wsX11_read 2 rmX11_read (some .int)) (S : St) {r0 : Int32 × St} (h : f_X11_read_b0 S = some r0) : G X (QM mkI X r0) S 0 [(0, .ref (ad X 0))] [] := by
  unfold f_X11_read_b0 at h
  refine g_aload_n (pc := 0) C dX11_read_0 rfl 0 rfl ?_
  refine g_get (pc := 1) C 0 (w_0 _ _) rfl 4 (Nat.le_of_ble_eq_true rfl) in_X11_X11_read k37_X11_read rfl dX11_read_1 ?_
  refine g_aload_n (pc := 4) C dX11_read_4 rfl 0 rfl ?_
  refine g_get (pc := 5) C 0 (w_0 _ _) rfl 2 (Nat.le_of_ble_eq_true rfl) in_X11_X11_read k23_X11_read rfl dX11_read_5 ?_
  refine g_aload_n (pc := 8) C dX11_read_8 rfl 0 rfl ?_
  refine g_get (pc := 9) C 0 (w_0 _ _) rfl 3 (Nat.le_of_ble_eq_true rfl) in_X11_X11_read k30_X11_read rfl dX11_read_9 ?_
  refine g_callV (pc := 12) C 7 (c_X7_findFault (Xl X) (Xb X) S) gX11_read_X7_findFault rfl rfl rfl hd_X7_findFault ⟨Nat.le_of_ble_eq_true rfl, Nat.le_of_ble_eq_true rfl⟩ (w_7 _ _) rfl rfl rfl (Nat.le_of_ble_eq_true rfl) dX11_read_12 h (fun r2 S1 h => ?_)
  change G X _ S1 15 [(0, .ref (ad X 0))] [.int r2]
  refine g_istore_n (pc := 15) C [(1, .int r2), (0, .ref (ad X 0))] dX11_read_15 rfl (Nat.le_of_ble_eq_true rfl) rfl ?_
  refine g_aload_n (pc := 16) C dX11_read_16 rfl 1 rfl ?_
  refine g_get (pc := 17) C 0 (w_0 _ _) rfl 2 (Nat.le_of_ble_eq_true rfl) in_X11_X11_read k23_X11_read rfl dX11_read_17 ?_
  refine g_callV (pc := 20) C 5 (c_X10_clear (Xl X) (Xb X) S1) gX11_read_X10_clear rfl rfl rfl hd_X10_clear ⟨Nat.le_of_ble_eq_true rfl, Nat.le_of_ble_eq_true rfl⟩ (w_5 _ _) rfl rfl rfl (Nat.le_of_ble_eq_true rfl) dX11_read_20 h (fun _u3 S3 h => ?_)
  change G X _ S3 23 [(1, .int r2), (0, .ref (ad X 0))] []
  refine g_iload_n (pc := 23) C dX11_read_23 rfl 0 rfl ?_
  refine g_iconst (pc := 24) (v := (-1)) C dX11_read_24 (by decide) ?_
  refine g_icmp_ne (pc := 25) (tgt := 38) C h dX11_read_25 (by decide) (fun h => ?_) (fun h => ?_)
  · refine g_bipush (pc := 38) (v := (-10)) C dX11_read_38 (by decide) ?_
    refine g_iload_n (pc := 40) C dX11_read_40 rfl 0 rfl ?_
    refine g_isub (pc := 41) C dX11_read_41 ?_
    refine g_weak (lv1 := []) [] rfl ?_
    exact s_X11_read_b42 C ((-10) - r2)  S3 h
  · refine g_aload_n (pc := 28) C dX11_read_28 rfl 1 rfl ?_
    refine g_get (pc := 29) C 0 (w_0 _ _) rfl 3 (Nat.le_of_ble_eq_true rfl) in_X11_X11_read k30_X11_read rfl dX11_read_29 ?_
    refine g_callV (pc := 32) C 6 (c_X8_keepStaged (Xl X) (Xb X) S3) gX11_read_X8_keepStaged rfl rfl rfl hd_X8_keepStaged ⟨Nat.le_of_ble_eq_true rfl, Nat.le_of_ble_eq_true rfl⟩ (w_6 _ _) rfl rfl rfl (Nat.le_of_ble_eq_true rfl) dX11_read_32 h (fun r5 S4 h => ?_)
    change G X _ S4 35 [(1, .int r2), (0, .ref (ad X 0))] [.int r5]
    refine g_goto (pc := 35) (tgt := 42) C dX11_read_35 (by decide) ?_
    refine g_weak (lv1 := []) [] rfl ?_
    exact s_X11_read_b42 C r5  S4 h
theorem c_X11_read (l : Launch) (b : Bw) (S : St) : Ct l b yX11_read wsX11_read rmX11_read [.ref (bad b 0)] S mkI (f_X11_read S) := Ct.of (by decide +kernel) rfl (Nat.le_of_ble_eq_true rfl) (fun X C hl hb r h => by
  subst hl; subst hb
  exact s_X11_read_b0 C S h)
/-! StyleRows$Rules.has(I)Z -/
set_option maxRecDepth 100000 in
set_option maxHeartbeats 4000000 in
theorem s_X8_has_b0 {X : MC} (C : Cx X cX8_has RX8 wsX8_has 2 rmX8_has (some .boolean)) (a1 : Int32) (S : St) {r0 : Int32 × St} (h : f_X8_has_b0 a1 S = some r0) : G X (QM mkI X r0) S 0 [(0, .ref (ad X 6)), (1, .int a1)] [] := by
  unfold f_X8_has_b0 at h
  refine g_iload_n (pc := 0) C dX8_has_0 rfl 1 rfl ?_
  refine g_iconst (pc := 1) (v := 0) C dX8_has_1 (by decide) ?_
  refine g_aload_n (pc := 2) C dX8_has_2 rfl 0 rfl ?_
  refine g_get (pc := 3) C 6 (w_6 _ _) rfl 2 (Nat.le_of_ble_eq_true rfl) in_X8_X8_has k26_X8_has rfl dX8_has_3 ?_
  refine g_iconst (pc := 6) (v := 1) C dX8_has_6 (by decide) ?_
  refine g_isub (pc := 7) C dX8_has_7 ?_
  refine g_callSN (pc := 8) C (c_X11_isWithin (Xl X) (Xb X) a1 0 ((gI S 6) - 1) S) gX8_has_X11_isWithin_n33 rfl rfl rfl nw_X8_33 kiniX11_X8_has kstX11_isWithin_X8_has hd_X11_isWithin ⟨Nat.le_of_ble_eq_true rfl, Nat.le_of_ble_eq_true rfl⟩ rfl rfl (Nat.le_of_ble_eq_true rfl) dX8_has_8 h (fun r2 S1 h => ?_)
  change G X _ S1 11 [(0, .ref (ad X 6)), (1, .int a1)] [.int r2]
  exact g_zret (pc := 11) C h dX8_has_11
theorem c_X8_has (l : Launch) (b : Bw) (a1 : Int32) (S : St) : Ct l b yX8_has wsX8_has rmX8_has [.ref (bad b 6), .int a1] S mkI (f_X8_has a1 S) := Ct.of (by decide +kernel) rfl (Nat.le_of_ble_eq_true rfl) (fun X C hl hb r h => by
  subst hl; subst hb
  exact s_X8_has_b0 C a1 S h)
/-! StyleRows.rule(II)I -/
set_option maxRecDepth 100000 in
set_option maxHeartbeats 4000000 in
theorem s_X11_rule_b37 {X : MC} (C : Cx X cX11_rule RX11 wsX11_rule 3 rmX11_rule (some .int)) (w0 : Int32) (S : St) {r0 : Int32 × St} (h : f_X11_rule_b37 w0 S = some r0) : G X (QM mkI X r0) S 37 [] [.int w0] := by
  unfold f_X11_rule_b37 at h
  exact g_iret (pc := 37) C h dX11_rule_37
set_option maxRecDepth 100000 in
set_option maxHeartbeats 4000000 in
theorem s_X11_rule_b34 {X : MC} (C : Cx X cX11_rule RX11 wsX11_rule 3 rmX11_rule (some .int)) (S : St) {r0 : Int32 × St} (h : f_X11_rule_b34 S = some r0) : G X (QM mkI X r0) S 34 [] [] := by
  unfold f_X11_rule_b34 at h
  refine g_sipush (pc := 34) (v := (-1001)) C dX11_rule_34 (by decide) ?_
  refine g_weak (lv1 := []) [] rfl ?_
  exact s_X11_rule_b37 C (-1001)  S h
set_option maxRecDepth 100000 in
set_option maxHeartbeats 4000000 in
theorem s_X11_rule_b0 {X : MC} (C : Cx X cX11_rule RX11 wsX11_rule 3 rmX11_rule (some .int)) (a1 : Int32) (a2 : Int32) (S : St) {r0 : Int32 × St} (h : f_X11_rule_b0 a1 a2 S = some r0) : G X (QM mkI X r0) S 0 [(0, .ref (ad X 0)), (1, .int a1), (2, .int a2)] [] := by
  unfold f_X11_rule_b0 at h
  refine g_aload_n (pc := 0) C dX11_rule_0 rfl 0 rfl ?_
  refine g_get (pc := 1) C 0 (w_0 _ _) rfl 3 (Nat.le_of_ble_eq_true rfl) in_X11_X11_rule k30_X11_rule rfl dX11_rule_1 ?_
  refine g_iload_n (pc := 4) C dX11_rule_4 rfl 1 rfl ?_
  refine g_callV (pc := 5) C 6 (c_X8_has (Xl X) (Xb X) a1 S) gX11_rule_X8_has rfl rfl rfl hd_X8_has ⟨Nat.le_of_ble_eq_true rfl, Nat.le_of_ble_eq_true rfl⟩ (w_6 _ _) rfl rfl rfl (Nat.le_of_ble_eq_true rfl) dX11_rule_5 h (fun r2 S1 h => ?_)
  change G X _ S1 8 [(0, .ref (ad X 0)), (1, .int a1), (2, .int a2)] [.int r2]
  refine g_if_eq (pc := 8) (tgt := 34) C h dX11_rule_8 (by decide) (fun h => ?_) (fun h => ?_)
  · refine g_weak (lv1 := []) [] rfl ?_
    exact s_X11_rule_b34 C   S1 h
  · refine g_iload_n (pc := 11) C dX11_rule_11 rfl 2 rfl ?_
    refine g_iconst (pc := 12) (v := 0) C dX11_rule_12 (by decide) ?_
    refine g_iconst (pc := 13) (v := 3) C dX11_rule_13 (by decide) ?_
    refine g_callS (pc := 14) C (c_X11_isWithin (Xl X) (Xb X) a2 0 3 S1) gX11_rule_X11_isWithin rfl rfl rfl hd_X11_isWithin ⟨Nat.le_of_ble_eq_true rfl, Nat.le_of_ble_eq_true rfl⟩ rfl rfl (Nat.le_of_ble_eq_true rfl) dX11_rule_14 h (fun r4 S3 h => ?_)
    change G X _ S3 17 [(0, .ref (ad X 0)), (1, .int a1), (2, .int a2)] [.int r4]
    refine g_if_eq (pc := 17) (tgt := 34) C h dX11_rule_17 (by decide) (fun h => ?_) (fun h => ?_)
    · refine g_weak (lv1 := []) [] rfl ?_
      exact s_X11_rule_b34 C   S3 h
    · refine g_aload_n (pc := 20) C dX11_rule_20 rfl 0 rfl ?_
      refine g_get (pc := 21) C 0 (w_0 _ _) rfl 3 (Nat.le_of_ble_eq_true rfl) in_X11_X11_rule k30_X11_rule rfl dX11_rule_21 ?_
      refine g_getN (pc := 24) C 6 (w_6 _ _) rfl 0 (Nat.le_of_ble_eq_true rfl) in_X8_X11_rule nw_X11_142 rfl dX11_rule_24 ?_
      refine g_iload_n (pc := 27) C dX11_rule_27 rfl 2 rfl ?_
      refine g_aald (pc := 28) C 25 _ (w_25 _ _) rfl h dX11_rule_28 (fun hn5 h => ?_)
      refine g_iload_n (pc := 29) C dX11_rule_29 rfl 1 rfl ?_
      refine g_iald (pc := 30) C _ (wg_25 _ _ _ hn5) h dX11_rule_30 (fun h => ?_)
      refine g_goto (pc := 31) (tgt := 37) C dX11_rule_31 (by decide) ?_
      refine g_weak (lv1 := []) [] rfl ?_
      exact s_X11_rule_b37 C (rd S3 (26 + Int32.toNatClampNeg a2) a1)  S3 h
theorem c_X11_rule (l : Launch) (b : Bw) (a1 : Int32) (a2 : Int32) (S : St) : Ct l b yX11_rule wsX11_rule rmX11_rule [.ref (bad b 0), .int a1, .int a2] S mkI (f_X11_rule a1 a2 S) := Ct.of (by decide +kernel) rfl (Nat.le_of_ble_eq_true rfl) (fun X C hl hb r h => by
  subst hl; subst hb
  exact s_X11_rule_b0 C a1 a2 S h)
/-! StyleRows$Events.soundingAt(I)I -/
set_option maxRecDepth 100000 in
set_option maxHeartbeats 4000000 in
theorem s_X1_soundingAt_b36 {X : MC} (C : Cx X cX1_soundingAt RX1 wsX1_soundingAt 4 rmX1_soundingAt (some .int)) {rec4 : Int32 × Int32 × St → Option (Int32 × St)} (v1 : Int32) (v2 : Int32) (v3 : Int32) (hrec4 : ∀ (s : Int32 × Int32 × St) (r : Int32 × St), rec4 s = some r → G X (QM mkI X r) s.2.2 4 [(0, .ref (ad X 11)), (1, .int v1), (2, .int (s.1)), (3, .int (s.2.1))] []) (S : St) {r0 : Int32 × St} (h : f_X1_soundingAt_b36 rec4 v1 v2 v3 S = some r0) : G X (QM mkI X r0) S 36 [(0, .ref (ad X 11)), (1, .int v1), (2, .int v2), (3, .int v3)] [] := by
  unfold f_X1_soundingAt_b36 at h
  refine g_iinc (pc := 36) (v := v3 + 1) C [(3, .int (v3 + 1)), (0, .ref (ad X 11)), (1, .int v1), (2, .int v2)] dX1_soundingAt_36 3 rfl rfl (Nat.le_of_ble_eq_true rfl) rfl ?_
  refine g_goto (pc := 39) (tgt := 4) C dX1_soundingAt_39 (by decide) ?_
  refine g_weak (lv1 := [(0, .ref (ad X 11)), (1, .int v1), (2, .int v2), (3, .int (v3 + 1))]) [1, 2, 3, 0] rfl ?_
  exact hrec4 (v2, v3 + 1, S) _ h
set_option maxRecDepth 100000 in
set_option maxHeartbeats 4000000 in
theorem s_X1_soundingAt_b4 {X : MC} (C : Cx X cX1_soundingAt RX1 wsX1_soundingAt 4 rmX1_soundingAt (some .int)) {rec4 : Int32 × Int32 × St → Option (Int32 × St)} (v1 : Int32) (v2 : Int32) (v3 : Int32) (hrec4 : ∀ (s : Int32 × Int32 × St) (r : Int32 × St), rec4 s = some r → G X (QM mkI X r) s.2.2 4 [(0, .ref (ad X 11)), (1, .int v1), (2, .int (s.1)), (3, .int (s.2.1))] []) (S : St) {r0 : Int32 × St} (h : f_X1_soundingAt_b4 rec4 v1 v2 v3 S = some r0) : G X (QM mkI X r0) S 4 [(0, .ref (ad X 11)), (1, .int v1), (2, .int v2), (3, .int v3)] [] := by
  unfold f_X1_soundingAt_b4 at h
  refine g_iload_n (pc := 4) C dX1_soundingAt_4 rfl 3 rfl ?_
  refine g_aload_n (pc := 5) C dX1_soundingAt_5 rfl 0 rfl ?_
  refine g_get (pc := 6) C 11 (w_11 _ _) rfl 1 (Nat.le_of_ble_eq_true rfl) in_X1_X1_soundingAt k16_X1_soundingAt rfl dX1_soundingAt_6 ?_
  refine g_icmp_ge (pc := 9) (tgt := 42) C h dX1_soundingAt_9 (by decide) (fun h => ?_) (fun h => ?_)
  · refine g_iload_n (pc := 42) C dX1_soundingAt_42 rfl 2 rfl ?_
    exact g_iret (pc := 43) C h dX1_soundingAt_43
  · refine g_aload_n (pc := 12) C dX1_soundingAt_12 rfl 0 rfl ?_
    refine g_get (pc := 13) C 11 (w_11 _ _) rfl 0 (Nat.le_of_ble_eq_true rfl) in_X1_X1_soundingAt k13_X1_soundingAt rfl dX1_soundingAt_13 ?_
    refine g_iconst (pc := 16) (v := 0) C dX1_soundingAt_16 (by decide) ?_
    refine g_aaldc (pc := 17) (i := 0) C 41 42 (w_41 _ _) rfl rfl dX1_soundingAt_17 ?_
    refine g_iload_n (pc := 18) C dX1_soundingAt_18 rfl 3 rfl ?_
    refine g_iald (pc := 19) C 42 (w_42 _ _) h dX1_soundingAt_19 (fun h => ?_)
    refine g_iload_n (pc := 20) C dX1_soundingAt_20 rfl 1 rfl ?_
    refine g_icmp_gt (pc := 21) (tgt := 36) C h dX1_soundingAt_21 (by decide) (fun h => ?_) (fun h => ?_)
    · refine g_weak (lv1 := [(0, .ref (ad X 11)), (1, .int v1), (2, .int v2), (3, .int v3)]) [0, 1, 2, 3] rfl ?_
      exact s_X1_soundingAt_b36 C v1 v2 v3 hrec4  S h
    · refine g_aload_n (pc := 24) C dX1_soundingAt_24 rfl 0 rfl ?_
      refine g_iload_n (pc := 25) C dX1_soundingAt_25 rfl 3 rfl ?_
      refine g_callV (pc := 26) C 11 (c_X1_endOf (Xl X) (Xb X) v3 S) gX1_soundingAt_X1_endOf rfl rfl rfl hd_X1_endOf ⟨Nat.le_of_ble_eq_true rfl, Nat.le_of_ble_eq_true rfl⟩ (w_11 _ _) rfl rfl rfl (Nat.le_of_ble_eq_true rfl) dX1_soundingAt_26 h (fun r2 S1 h => ?_)
      change G X _ S1 29 [(0, .ref (ad X 11)), (1, .int v1), (2, .int v2), (3, .int v3)] [.int r2]
      refine g_iload_n (pc := 29) C dX1_soundingAt_29 rfl 1 rfl ?_
      refine g_icmp_le (pc := 30) (tgt := 36) C h dX1_soundingAt_30 (by decide) (fun h => ?_) (fun h => ?_)
      · refine g_weak (lv1 := [(0, .ref (ad X 11)), (1, .int v1), (2, .int v2), (3, .int v3)]) [0, 1, 2, 3] rfl ?_
        exact s_X1_soundingAt_b36 C v1 v2 v3 hrec4  S1 h
      · refine g_iinc (pc := 33) (v := v2 + 1) C [(2, .int (v2 + 1)), (0, .ref (ad X 11)), (1, .int v1), (3, .int v3)] dX1_soundingAt_33 2 rfl rfl (Nat.le_of_ble_eq_true rfl) rfl ?_
        refine g_weak (lv1 := [(0, .ref (ad X 11)), (1, .int v1), (2, .int (v2 + 1)), (3, .int v3)]) [1, 2, 0, 3] rfl ?_
        exact s_X1_soundingAt_b36 C v1 (v2 + 1) v3 hrec4  S1 h
set_option maxRecDepth 100000 in
set_option maxHeartbeats 4000000 in
theorem s_X1_soundingAt_l4 {X : MC} (C : Cx X cX1_soundingAt RX1 wsX1_soundingAt 4 rmX1_soundingAt (some .int)) (v1 : Int32) : ∀ (n : Nat) (s : Int32 × Int32 × St) (r : Int32 × St), f_X1_soundingAt_l4 v1 n s = some r → G X (QM mkI X r) s.2.2 4 [(0, .ref (ad X 11)), (1, .int v1), (2, .int (s.1)), (3, .int (s.2.1))] [] :=
  loop_sound (fun rec4 hrec4 s r h => s_X1_soundingAt_b4 C v1 s.1 s.2.1 hrec4 s.2.2 h)
set_option maxRecDepth 100000 in
set_option maxHeartbeats 4000000 in
theorem s_X1_soundingAt_b0 {X : MC} (C : Cx X cX1_soundingAt RX1 wsX1_soundingAt 4 rmX1_soundingAt (some .int)) (a1 : Int32) (S : St) {r0 : Int32 × St} (h : f_X1_soundingAt_b0 a1 S = some r0) : G X (QM mkI X r0) S 0 [(0, .ref (ad X 11)), (1, .int a1)] [] := by
  unfold f_X1_soundingAt_b0 at h
  refine g_iconst (pc := 0) (v := 0) C dX1_soundingAt_0 (by decide) ?_
  refine g_istore_n (pc := 1) C [(2, .int 0), (0, .ref (ad X 11)), (1, .int a1)] dX1_soundingAt_1 rfl (Nat.le_of_ble_eq_true rfl) rfl ?_
  refine g_iconst (pc := 2) (v := 0) C dX1_soundingAt_2 (by decide) ?_
  refine g_istore_n (pc := 3) C [(3, .int 0), (2, .int 0), (0, .ref (ad X 11)), (1, .int a1)] dX1_soundingAt_3 rfl (Nat.le_of_ble_eq_true rfl) rfl ?_
  refine g_weak (lv1 := [(0, .ref (ad X 11)), (1, .int a1), (2, .int 0), (3, .int 0)]) [2, 3, 1, 0] rfl ?_
  exact s_X1_soundingAt_l4 C a1 _ (0, 0, S) _ h
theorem c_X1_soundingAt (l : Launch) (b : Bw) (a1 : Int32) (S : St) : Ct l b yX1_soundingAt wsX1_soundingAt rmX1_soundingAt [.ref (bad b 11), .int a1] S mkI (f_X1_soundingAt a1 S) := Ct.of (by decide +kernel) rfl (Nat.le_of_ble_eq_true rfl) (fun X C hl hb r h => by
  subst hl; subst hb
  exact s_X1_soundingAt_b0 C a1 S h)
/-! StyleRows.sounding(I)I -/
set_option maxRecDepth 100000 in
set_option maxHeartbeats 4000000 in
theorem s_X11_sounding_b0 {X : MC} (C : Cx X cX11_sounding RX11 wsX11_sounding 2 rmX11_sounding (some .int)) (a1 : Int32) (S : St) {r0 : Int32 × St} (h : f_X11_sounding_b0 a1 S = some r0) : G X (QM mkI X r0) S 0 [(0, .ref (ad X 0)), (1, .int a1)] [] := by
  unfold f_X11_sounding_b0 at h
  refine g_aload_n (pc := 0) C dX11_sounding_0 rfl 0 rfl ?_
  refine g_get (pc := 1) C 0 (w_0 _ _) rfl 7 (Nat.le_of_ble_eq_true rfl) in_X11_X11_sounding k58_X11_sounding rfl dX11_sounding_1 ?_
  refine g_iload_n (pc := 4) C dX11_sounding_4 rfl 1 rfl ?_
  refine g_callV (pc := 5) C 11 (c_X1_soundingAt (Xl X) (Xb X) a1 S) gX11_sounding_X1_soundingAt rfl rfl rfl hd_X1_soundingAt ⟨Nat.le_of_ble_eq_true rfl, Nat.le_of_ble_eq_true rfl⟩ (w_11 _ _) rfl rfl rfl (Nat.le_of_ble_eq_true rfl) dX11_sounding_5 h (fun r2 S1 h => ?_)
  change G X _ S1 8 [(0, .ref (ad X 0)), (1, .int a1)] [.int r2]
  exact g_iret (pc := 8) C h dX11_sounding_8
theorem c_X11_sounding (l : Launch) (b : Bw) (a1 : Int32) (S : St) : Ct l b yX11_sounding wsX11_sounding rmX11_sounding [.ref (bad b 0), .int a1] S mkI (f_X11_sounding a1 S) := Ct.of (by decide +kernel) rfl (Nat.le_of_ble_eq_true rfl) (fun X C hl hb r h => by
  subst hl; subst hb
  exact s_X11_sounding_b0 C a1 S h)
/-! StyleRows$Events.howManyOf(I)I -/
set_option maxRecDepth 100000 in
set_option maxHeartbeats 4000000 in
theorem s_X1_howManyOf_b27 {X : MC} (C : Cx X cX1_howManyOf RX1 wsX1_howManyOf 4 rmX1_howManyOf (some .int)) {rec4 : Int32 × Int32 × St → Option (Int32 × St)} (v1 : Int32) (v2 : Int32) (v3 : Int32) (hrec4 : ∀ (s : Int32 × Int32 × St) (r : Int32 × St), rec4 s = some r → G X (QM mkI X r) s.2.2 4 [(0, .ref (ad X 11)), (1, .int v1), (2, .int (s.1)), (3, .int (s.2.1))] []) (S : St) {r0 : Int32 × St} (h : f_X1_howManyOf_b27 rec4 v1 v2 v3 S = some r0) : G X (QM mkI X r0) S 27 [(0, .ref (ad X 11)), (1, .int v1), (2, .int v2), (3, .int v3)] [] := by
  unfold f_X1_howManyOf_b27 at h
  refine g_iinc (pc := 27) (v := v3 + 1) C [(3, .int (v3 + 1)), (0, .ref (ad X 11)), (1, .int v1), (2, .int v2)] dX1_howManyOf_27 3 rfl rfl (Nat.le_of_ble_eq_true rfl) rfl ?_
  refine g_goto (pc := 30) (tgt := 4) C dX1_howManyOf_30 (by decide) ?_
  refine g_weak (lv1 := [(0, .ref (ad X 11)), (1, .int v1), (2, .int v2), (3, .int (v3 + 1))]) [1, 2, 3, 0] rfl ?_
  exact hrec4 (v2, v3 + 1, S) _ h
set_option maxRecDepth 100000 in
set_option maxHeartbeats 4000000 in
theorem s_X1_howManyOf_b4 {X : MC} (C : Cx X cX1_howManyOf RX1 wsX1_howManyOf 4 rmX1_howManyOf (some .int)) {rec4 : Int32 × Int32 × St → Option (Int32 × St)} (v1 : Int32) (v2 : Int32) (v3 : Int32) (hrec4 : ∀ (s : Int32 × Int32 × St) (r : Int32 × St), rec4 s = some r → G X (QM mkI X r) s.2.2 4 [(0, .ref (ad X 11)), (1, .int v1), (2, .int (s.1)), (3, .int (s.2.1))] []) (S : St) {r0 : Int32 × St} (h : f_X1_howManyOf_b4 rec4 v1 v2 v3 S = some r0) : G X (QM mkI X r0) S 4 [(0, .ref (ad X 11)), (1, .int v1), (2, .int v2), (3, .int v3)] [] := by
  unfold f_X1_howManyOf_b4 at h
  refine g_iload_n (pc := 4) C dX1_howManyOf_4 rfl 3 rfl ?_
  refine g_aload_n (pc := 5) C dX1_howManyOf_5 rfl 0 rfl ?_
  refine g_get (pc := 6) C 11 (w_11 _ _) rfl 1 (Nat.le_of_ble_eq_true rfl) in_X1_X1_howManyOf k16_X1_howManyOf rfl dX1_howManyOf_6 ?_
  refine g_icmp_ge (pc := 9) (tgt := 33) C h dX1_howManyOf_9 (by decide) (fun h => ?_) (fun h => ?_)
  · refine g_iload_n (pc := 33) C dX1_howManyOf_33 rfl 2 rfl ?_
    exact g_iret (pc := 34) C h dX1_howManyOf_34
  · refine g_aload_n (pc := 12) C dX1_howManyOf_12 rfl 0 rfl ?_
    refine g_get (pc := 13) C 11 (w_11 _ _) rfl 0 (Nat.le_of_ble_eq_true rfl) in_X1_X1_howManyOf k13_X1_howManyOf rfl dX1_howManyOf_13 ?_
    refine g_iconst (pc := 16) (v := 4) C dX1_howManyOf_16 (by decide) ?_
    refine g_aaldc (pc := 17) (i := 4) C 41 46 (w_41 _ _) rfl rfl dX1_howManyOf_17 ?_
    refine g_iload_n (pc := 18) C dX1_howManyOf_18 rfl 3 rfl ?_
    refine g_iald (pc := 19) C 46 (w_46 _ _) h dX1_howManyOf_19 (fun h => ?_)
    refine g_iload_n (pc := 20) C dX1_howManyOf_20 rfl 1 rfl ?_
    refine g_icmp_ne (pc := 21) (tgt := 27) C h dX1_howManyOf_21 (by decide) (fun h => ?_) (fun h => ?_)
    · refine g_weak (lv1 := [(0, .ref (ad X 11)), (1, .int v1), (2, .int v2), (3, .int v3)]) [0, 1, 2, 3] rfl ?_
      exact s_X1_howManyOf_b27 C v1 v2 v3 hrec4  S h
    · refine g_iinc (pc := 24) (v := v2 + 1) C [(2, .int (v2 + 1)), (0, .ref (ad X 11)), (1, .int v1), (3, .int v3)] dX1_howManyOf_24 2 rfl rfl (Nat.le_of_ble_eq_true rfl) rfl ?_
      refine g_weak (lv1 := [(0, .ref (ad X 11)), (1, .int v1), (2, .int (v2 + 1)), (3, .int v3)]) [1, 2, 0, 3] rfl ?_
      exact s_X1_howManyOf_b27 C v1 (v2 + 1) v3 hrec4  S h
set_option maxRecDepth 100000 in
set_option maxHeartbeats 4000000 in
theorem s_X1_howManyOf_l4 {X : MC} (C : Cx X cX1_howManyOf RX1 wsX1_howManyOf 4 rmX1_howManyOf (some .int)) (v1 : Int32) : ∀ (n : Nat) (s : Int32 × Int32 × St) (r : Int32 × St), f_X1_howManyOf_l4 v1 n s = some r → G X (QM mkI X r) s.2.2 4 [(0, .ref (ad X 11)), (1, .int v1), (2, .int (s.1)), (3, .int (s.2.1))] [] :=
  loop_sound (fun rec4 hrec4 s r h => s_X1_howManyOf_b4 C v1 s.1 s.2.1 hrec4 s.2.2 h)
set_option maxRecDepth 100000 in
set_option maxHeartbeats 4000000 in
theorem s_X1_howManyOf_b0 {X : MC} (C : Cx X cX1_howManyOf RX1 wsX1_howManyOf 4 rmX1_howManyOf (some .int)) (a1 : Int32) (S : St) {r0 : Int32 × St} (h : f_X1_howManyOf_b0 a1 S = some r0) : G X (QM mkI X r0) S 0 [(0, .ref (ad X 11)), (1, .int a1)] [] := by
  unfold f_X1_howManyOf_b0 at h
  refine g_iconst (pc := 0) (v := 0) C dX1_howManyOf_0 (by decide) ?_
  refine g_istore_n (pc := 1) C [(2, .int 0), (0, .ref (ad X 11)), (1, .int a1)] dX1_howManyOf_1 rfl (Nat.le_of_ble_eq_true rfl) rfl ?_
  refine g_iconst (pc := 2) (v := 0) C dX1_howManyOf_2 (by decide) ?_
  refine g_istore_n (pc := 3) C [(3, .int 0), (2, .int 0), (0, .ref (ad X 11)), (1, .int a1)] dX1_howManyOf_3 rfl (Nat.le_of_ble_eq_true rfl) rfl ?_
  refine g_weak (lv1 := [(0, .ref (ad X 11)), (1, .int a1), (2, .int 0), (3, .int 0)]) [2, 3, 1, 0] rfl ?_
  exact s_X1_howManyOf_l4 C a1 _ (0, 0, S) _ h
theorem c_X1_howManyOf (l : Launch) (b : Bw) (a1 : Int32) (S : St) : Ct l b yX1_howManyOf wsX1_howManyOf rmX1_howManyOf [.ref (bad b 11), .int a1] S mkI (f_X1_howManyOf a1 S) := Ct.of (by decide +kernel) rfl (Nat.le_of_ble_eq_true rfl) (fun X C hl hb r h => by
  subst hl; subst hb
  exact s_X1_howManyOf_b0 C a1 S h)
/-! StyleRows$Events.firstBeginOf(I)I -/
set_option maxRecDepth 100000 in
set_option maxHeartbeats 4000000 in
theorem s_X1_firstBeginOf_b2 {X : MC} (C : Cx X cX1_firstBeginOf RX1 wsX1_firstBeginOf 3 rmX1_firstBeginOf (some .int)) {rec2 : Int32 × St → Option (Int32 × St)} (v1 : Int32) (v2 : Int32) (hrec2 : ∀ (s : Int32 × St) (r : Int32 × St), rec2 s = some r → G X (QM mkI X r) s.2 2 [(0, .ref (ad X 11)), (1, .int v1), (2, .int (s.1))] []) (S : St) {r0 : Int32 × St} (h : f_X1_firstBeginOf_b2 rec2 v1 v2 S = some r0) : G X (QM mkI X r0) S 2 [(0, .ref (ad X 11)), (1, .int v1), (2, .int v2)] [] := by
  unfold f_X1_firstBeginOf_b2 at h
  refine g_iload_n (pc := 2) C dX1_firstBeginOf_2 rfl 2 rfl ?_
  refine g_aload_n (pc := 3) C dX1_firstBeginOf_3 rfl 0 rfl ?_
  refine g_get (pc := 4) C 11 (w_11 _ _) rfl 1 (Nat.le_of_ble_eq_true rfl) in_X1_X1_firstBeginOf k16_X1_firstBeginOf rfl dX1_firstBeginOf_4 ?_
  refine g_icmp_ge (pc := 7) (tgt := 37) C h dX1_firstBeginOf_7 (by decide) (fun h => ?_) (fun h => ?_)
  · refine g_iconst (pc := 37) (v := (-1)) C dX1_firstBeginOf_37 (by decide) ?_
    exact g_iret (pc := 38) C h dX1_firstBeginOf_38
  · refine g_aload_n (pc := 10) C dX1_firstBeginOf_10 rfl 0 rfl ?_
    refine g_get (pc := 11) C 11 (w_11 _ _) rfl 0 (Nat.le_of_ble_eq_true rfl) in_X1_X1_firstBeginOf k13_X1_firstBeginOf rfl dX1_firstBeginOf_11 ?_
    refine g_iconst (pc := 14) (v := 4) C dX1_firstBeginOf_14 (by decide) ?_
    refine g_aaldc (pc := 15) (i := 4) C 41 46 (w_41 _ _) rfl rfl dX1_firstBeginOf_15 ?_
    refine g_iload_n (pc := 16) C dX1_firstBeginOf_16 rfl 2 rfl ?_
    refine g_iald (pc := 17) C 46 (w_46 _ _) h dX1_firstBeginOf_17 (fun h => ?_)
    refine g_iload_n (pc := 18) C dX1_firstBeginOf_18 rfl 1 rfl ?_
    refine g_icmp_ne (pc := 19) (tgt := 31) C h dX1_firstBeginOf_19 (by decide) (fun h => ?_) (fun h => ?_)
    · refine g_iinc (pc := 31) (v := v2 + 1) C [(2, .int (v2 + 1)), (0, .ref (ad X 11)), (1, .int v1)] dX1_firstBeginOf_31 2 rfl rfl (Nat.le_of_ble_eq_true rfl) rfl ?_
      refine g_goto (pc := 34) (tgt := 2) C dX1_firstBeginOf_34 (by decide) ?_
      refine g_weak (lv1 := [(0, .ref (ad X 11)), (1, .int v1), (2, .int (v2 + 1))]) [1, 2, 0] rfl ?_
      exact hrec2 (v2 + 1, S) _ h
    · refine g_aload_n (pc := 22) C dX1_firstBeginOf_22 rfl 0 rfl ?_
      refine g_get (pc := 23) C 11 (w_11 _ _) rfl 0 (Nat.le_of_ble_eq_true rfl) in_X1_X1_firstBeginOf k13_X1_firstBeginOf rfl dX1_firstBeginOf_23 ?_
      refine g_iconst (pc := 26) (v := 0) C dX1_firstBeginOf_26 (by decide) ?_
      refine g_aaldc (pc := 27) (i := 0) C 41 42 (w_41 _ _) rfl rfl dX1_firstBeginOf_27 ?_
      refine g_iload_n (pc := 28) C dX1_firstBeginOf_28 rfl 2 rfl ?_
      refine g_iald (pc := 29) C 42 (w_42 _ _) h dX1_firstBeginOf_29 (fun h => ?_)
      exact g_iret (pc := 30) C h dX1_firstBeginOf_30
set_option maxRecDepth 100000 in
set_option maxHeartbeats 4000000 in
theorem s_X1_firstBeginOf_l2 {X : MC} (C : Cx X cX1_firstBeginOf RX1 wsX1_firstBeginOf 3 rmX1_firstBeginOf (some .int)) (v1 : Int32) : ∀ (n : Nat) (s : Int32 × St) (r : Int32 × St), f_X1_firstBeginOf_l2 v1 n s = some r → G X (QM mkI X r) s.2 2 [(0, .ref (ad X 11)), (1, .int v1), (2, .int (s.1))] [] :=
  loop_sound (fun rec2 hrec2 s r h => s_X1_firstBeginOf_b2 C v1 s.1 hrec2 s.2 h)
set_option maxRecDepth 100000 in
set_option maxHeartbeats 4000000 in
theorem s_X1_firstBeginOf_b0 {X : MC} (C : Cx X cX1_firstBeginOf RX1 wsX1_firstBeginOf 3 rmX1_firstBeginOf (some .int)) (a1 : Int32) (S : St) {r0 : Int32 × St} (h : f_X1_firstBeginOf_b0 a1 S = some r0) : G X (QM mkI X r0) S 0 [(0, .ref (ad X 11)), (1, .int a1)] [] := by
  unfold f_X1_firstBeginOf_b0 at h
  refine g_iconst (pc := 0) (v := 0) C dX1_firstBeginOf_0 (by decide) ?_
  refine g_istore_n (pc := 1) C [(2, .int 0), (0, .ref (ad X 11)), (1, .int a1)] dX1_firstBeginOf_1 rfl (Nat.le_of_ble_eq_true rfl) rfl ?_
  refine g_weak (lv1 := [(0, .ref (ad X 11)), (1, .int a1), (2, .int 0)]) [1, 2, 0] rfl ?_
  exact s_X1_firstBeginOf_l2 C a1 _ (0, S) _ h
theorem c_X1_firstBeginOf (l : Launch) (b : Bw) (a1 : Int32) (S : St) : Ct l b yX1_firstBeginOf wsX1_firstBeginOf rmX1_firstBeginOf [.ref (bad b 11), .int a1] S mkI (f_X1_firstBeginOf a1 S) := Ct.of (by decide +kernel) rfl (Nat.le_of_ble_eq_true rfl) (fun X C hl hb r h => by
  subst hl; subst hb
  exact s_X1_firstBeginOf_b0 C a1 S h)
/-! StyleRows$Events.lastEndOf(I)I -/
set_option maxRecDepth 100000 in
set_option maxHeartbeats 4000000 in
theorem s_X1_lastEndOf_b52 {X : MC} (C : Cx X cX1_lastEndOf RX1 wsX1_lastEndOf 5 rmX1_lastEndOf (some .int)) {rec7 : Int32 × Int32 × Int32 × St → Option (Int32 × St)} (v1 : Int32) (v2 : Int32) (v3 : Int32) (v4 : Int32) (hrec7 : ∀ (s : Int32 × Int32 × Int32 × St) (r : Int32 × St), rec7 s = some r → G X (QM mkI X r) s.2.2.2 7 [(0, .ref (ad X 11)), (1, .int v1), (2, .int (s.1)), (3, .int (s.2.1)), (4, .int (s.2.2.1))] []) (S : St) {r0 : Int32 × St} (h : f_X1_lastEndOf_b52 rec7 v1 v2 v3 v4 S = some r0) : G X (QM mkI X r0) S 52 [(0, .ref (ad X 11)), (1, .int v1), (2, .int v2), (3, .int v3), (4, .int v4)] [] := by
  unfold f_X1_lastEndOf_b52 at h
  refine g_iinc (pc := 52) (v := v4 + 1) C [(4, .int (v4 + 1)), (0, .ref (ad X 11)), (1, .int v1), (2, .int v2), (3, .int v3)] dX1_lastEndOf_52 4 rfl rfl (Nat.le_of_ble_eq_true rfl) rfl ?_
  refine g_goto (pc := 55) (tgt := 7) C dX1_lastEndOf_55 (by decide) ?_
  refine g_weak (lv1 := [(0, .ref (ad X 11)), (1, .int v1), (2, .int v2), (3, .int v3), (4, .int (v4 + 1))]) [1, 2, 3, 4, 0] rfl ?_
  exact hrec7 (v2, v3, v4 + 1, S) _ h
set_option maxRecDepth 100000 in
set_option maxHeartbeats 4000000 in
theorem s_X1_lastEndOf_b43 {X : MC} (C : Cx X cX1_lastEndOf RX1 wsX1_lastEndOf 5 rmX1_lastEndOf (some .int)) {rec7 : Int32 × Int32 × Int32 × St → Option (Int32 × St)} (v1 : Int32) (v4 : Int32) (hrec7 : ∀ (s : Int32 × Int32 × Int32 × St) (r : Int32 × St), rec7 s = some r → G X (QM mkI X r) s.2.2.2 7 [(0, .ref (ad X 11)), (1, .int v1), (2, .int (s.1)), (3, .int (s.2.1)), (4, .int (s.2.2.1))] []) (S : St) {r0 : Int32 × St} (h : f_X1_lastEndOf_b43 rec7 v1 v4 S = some r0) : G X (QM mkI X r0) S 43 [(0, .ref (ad X 11)), (1, .int v1), (4, .int v4)] [] := by
  unfold f_X1_lastEndOf_b43 at h
  refine g_aload_n (pc := 43) C dX1_lastEndOf_43 rfl 0 rfl ?_
  refine g_iload (pc := 44) C dX1_lastEndOf_44 2 rfl ?_
  refine g_callV (pc := 46) C 11 (c_X1_endOf (Xl X) (Xb X) v4 S) gX1_lastEndOf_X1_endOf rfl rfl rfl hd_X1_endOf ⟨Nat.le_of_ble_eq_true rfl, Nat.le_of_ble_eq_true rfl⟩ (w_11 _ _) rfl rfl rfl (Nat.le_of_ble_eq_true rfl) dX1_lastEndOf_46 h (fun r2 S1 h => ?_)
  change G X _ S1 49 [(0, .ref (ad X 11)), (1, .int v1), (4, .int v4)] [.int r2]
  refine g_istore_n (pc := 49) C [(3, .int r2), (0, .ref (ad X 11)), (1, .int v1), (4, .int v4)] dX1_lastEndOf_49 rfl (Nat.le_of_ble_eq_true rfl) rfl ?_
  refine g_iconst (pc := 50) (v := 1) C dX1_lastEndOf_50 (by decide) ?_
  refine g_istore_n (pc := 51) C [(2, .int 1), (3, .int r2), (0, .ref (ad X 11)), (1, .int v1), (4, .int v4)] dX1_lastEndOf_51 rfl (Nat.le_of_ble_eq_true rfl) rfl ?_
  refine g_weak (lv1 := [(0, .ref (ad X 11)), (1, .int v1), (2, .int 1), (3, .int r2), (4, .int v4)]) [2, 3, 0, 1, 4] rfl ?_
  exact s_X1_lastEndOf_b52 C v1 1 r2 v4 hrec7  S1 h
set_option maxRecDepth 100000 in
set_option maxHeartbeats 4000000 in
theorem s_X1_lastEndOf_b7 {X : MC} (C : Cx X cX1_lastEndOf RX1 wsX1_lastEndOf 5 rmX1_lastEndOf (some .int)) {rec7 : Int32 × Int32 × Int32 × St → Option (Int32 × St)} (v1 : Int32) (v2 : Int32) (v3 : Int32) (v4 : Int32) (hrec7 : ∀ (s : Int32 × Int32 × Int32 × St) (r : Int32 × St), rec7 s = some r → G X (QM mkI X r) s.2.2.2 7 [(0, .ref (ad X 11)), (1, .int v1), (2, .int (s.1)), (3, .int (s.2.1)), (4, .int (s.2.2.1))] []) (S : St) {r0 : Int32 × St} (h : f_X1_lastEndOf_b7 rec7 v1 v2 v3 v4 S = some r0) : G X (QM mkI X r0) S 7 [(0, .ref (ad X 11)), (1, .int v1), (2, .int v2), (3, .int v3), (4, .int v4)] [] := by
  unfold f_X1_lastEndOf_b7 at h
  refine g_iload (pc := 7) C dX1_lastEndOf_7 4 rfl ?_
  refine g_aload_n (pc := 9) C dX1_lastEndOf_9 rfl 0 rfl ?_
  refine g_get (pc := 10) C 11 (w_11 _ _) rfl 1 (Nat.le_of_ble_eq_true rfl) in_X1_X1_lastEndOf k16_X1_lastEndOf rfl dX1_lastEndOf_10 ?_
  refine g_icmp_ge (pc := 13) (tgt := 58) C h dX1_lastEndOf_13 (by decide) (fun h => ?_) (fun h => ?_)
  · refine g_iload_n (pc := 58) C dX1_lastEndOf_58 rfl 3 rfl ?_
    exact g_iret (pc := 59) C h dX1_lastEndOf_59
  · refine g_aload_n (pc := 16) C dX1_lastEndOf_16 rfl 0 rfl ?_
    refine g_get (pc := 17) C 11 (w_11 _ _) rfl 0 (Nat.le_of_ble_eq_true rfl) in_X1_X1_lastEndOf k13_X1_lastEndOf rfl dX1_lastEndOf_17 ?_
    refine g_iconst (pc := 20) (v := 4) C dX1_lastEndOf_20 (by decide) ?_
    refine g_aaldc (pc := 21) (i := 4) C 41 46 (w_41 _ _) rfl rfl dX1_lastEndOf_21 ?_
    refine g_iload (pc := 22) C dX1_lastEndOf_22 4 rfl ?_
    refine g_iald (pc := 24) C 46 (w_46 _ _) h dX1_lastEndOf_24 (fun h => ?_)
    refine g_iload_n (pc := 25) C dX1_lastEndOf_25 rfl 1 rfl ?_
    refine g_icmp_ne (pc := 26) (tgt := 52) C h dX1_lastEndOf_26 (by decide) (fun h => ?_) (fun h => ?_)
    · refine g_weak (lv1 := [(0, .ref (ad X 11)), (1, .int v1), (2, .int v2), (3, .int v3), (4, .int v4)]) [0, 1, 2, 3, 4] rfl ?_
      exact s_X1_lastEndOf_b52 C v1 v2 v3 v4 hrec7  S h
    · refine g_iload_n (pc := 29) C dX1_lastEndOf_29 rfl 2 rfl ?_
      refine g_if_eq (pc := 30) (tgt := 43) C h dX1_lastEndOf_30 (by decide) (fun h => ?_) (fun h => ?_)
      · refine g_weak (lv1 := [(0, .ref (ad X 11)), (1, .int v1), (4, .int v4)]) [0, 1, 4] rfl ?_
        exact s_X1_lastEndOf_b43 C v1 v4 hrec7  S h
      · refine g_aload_n (pc := 33) C dX1_lastEndOf_33 rfl 0 rfl ?_
        refine g_iload (pc := 34) C dX1_lastEndOf_34 4 rfl ?_
        refine g_callV (pc := 36) C 11 (c_X1_endOf (Xl X) (Xb X) v4 S) gX1_lastEndOf_X1_endOf rfl rfl rfl hd_X1_endOf ⟨Nat.le_of_ble_eq_true rfl, Nat.le_of_ble_eq_true rfl⟩ (w_11 _ _) rfl rfl rfl (Nat.le_of_ble_eq_true rfl) dX1_lastEndOf_36 h (fun r4 S3 h => ?_)
        change G X _ S3 39 [(0, .ref (ad X 11)), (1, .int v1), (2, .int v2), (3, .int v3), (4, .int v4)] [.int r4]
        refine g_iload_n (pc := 39) C dX1_lastEndOf_39 rfl 3 rfl ?_
        refine g_icmp_le (pc := 40) (tgt := 52) C h dX1_lastEndOf_40 (by decide) (fun h => ?_) (fun h => ?_)
        · refine g_weak (lv1 := [(0, .ref (ad X 11)), (1, .int v1), (2, .int v2), (3, .int v3), (4, .int v4)]) [0, 1, 2, 3, 4] rfl ?_
          exact s_X1_lastEndOf_b52 C v1 v2 v3 v4 hrec7  S3 h
        · refine g_weak (lv1 := [(0, .ref (ad X 11)), (1, .int v1), (4, .int v4)]) [0, 1, 4] rfl ?_
          exact s_X1_lastEndOf_b43 C v1 v4 hrec7  S3 h
set_option maxRecDepth 100000 in
set_option maxHeartbeats 4000000 in
theorem s_X1_lastEndOf_l7 {X : MC} (C : Cx X cX1_lastEndOf RX1 wsX1_lastEndOf 5 rmX1_lastEndOf (some .int)) (v1 : Int32) : ∀ (n : Nat) (s : Int32 × Int32 × Int32 × St) (r : Int32 × St), f_X1_lastEndOf_l7 v1 n s = some r → G X (QM mkI X r) s.2.2.2 7 [(0, .ref (ad X 11)), (1, .int v1), (2, .int (s.1)), (3, .int (s.2.1)), (4, .int (s.2.2.1))] [] :=
  loop_sound (fun rec7 hrec7 s r h => s_X1_lastEndOf_b7 C v1 s.1 s.2.1 s.2.2.1 hrec7 s.2.2.2 h)
set_option maxRecDepth 100000 in
set_option maxHeartbeats 4000000 in
theorem s_X1_lastEndOf_b0 {X : MC} (C : Cx X cX1_lastEndOf RX1 wsX1_lastEndOf 5 rmX1_lastEndOf (some .int)) (a1 : Int32) (S : St) {r0 : Int32 × St} (h : f_X1_lastEndOf_b0 a1 S = some r0) : G X (QM mkI X r0) S 0 [(0, .ref (ad X 11)), (1, .int a1)] [] := by
  unfold f_X1_lastEndOf_b0 at h
  refine g_iconst (pc := 0) (v := 0) C dX1_lastEndOf_0 (by decide) ?_
  refine g_istore_n (pc := 1) C [(2, .int 0), (0, .ref (ad X 11)), (1, .int a1)] dX1_lastEndOf_1 rfl (Nat.le_of_ble_eq_true rfl) rfl ?_
  refine g_iconst (pc := 2) (v := (-1)) C dX1_lastEndOf_2 (by decide) ?_
  refine g_istore_n (pc := 3) C [(3, .int (-1)), (2, .int 0), (0, .ref (ad X 11)), (1, .int a1)] dX1_lastEndOf_3 rfl (Nat.le_of_ble_eq_true rfl) rfl ?_
  refine g_iconst (pc := 4) (v := 0) C dX1_lastEndOf_4 (by decide) ?_
  refine g_istore (pc := 5) C [(4, .int 0), (3, .int (-1)), (2, .int 0), (0, .ref (ad X 11)), (1, .int a1)] dX1_lastEndOf_5 (Nat.le_of_ble_eq_true rfl) rfl ?_
  refine g_weak (lv1 := [(0, .ref (ad X 11)), (1, .int a1), (2, .int 0), (3, .int (-1)), (4, .int 0)]) [3, 4, 2, 1, 0] rfl ?_
  exact s_X1_lastEndOf_l7 C a1 _ (0, (-1), 0, S) _ h
theorem c_X1_lastEndOf (l : Launch) (b : Bw) (a1 : Int32) (S : St) : Ct l b yX1_lastEndOf wsX1_lastEndOf rmX1_lastEndOf [.ref (bad b 11), .int a1] S mkI (f_X1_lastEndOf a1 S) := Ct.of (by decide +kernel) rfl (Nat.le_of_ble_eq_true rfl) (fun X C hl hb r h => by
  subst hl; subst hb
  exact s_X1_lastEndOf_b0 C a1 S h)
/-! StyleRows.span(II)I -/
set_option maxRecDepth 100000 in
set_option maxHeartbeats 4000000 in
theorem s_X11_span_b0 {X : MC} (C : Cx X cX11_span RX11 wsX11_span 3 rmX11_span (some .int)) (a1 : Int32) (a2 : Int32) (S : St) {r0 : Int32 × St} (h : f_X11_span_b0 a1 a2 S = some r0) : G X (QM mkI X r0) S 0 [(0, .ref (ad X 0)), (1, .int a1), (2, .int a2)] [] := by
  unfold f_X11_span_b0 at h
  refine g_aload_n (pc := 0) C dX11_span_0 rfl 0 rfl ?_
  refine g_get (pc := 1) C 0 (w_0 _ _) rfl 1 (Nat.le_of_ble_eq_true rfl) in_X11_X11_span k16_X11_span rfl dX11_span_1 ?_
  refine g_getN (pc := 4) C 1 (w_1 _ _) rfl 0 (Nat.le_of_ble_eq_true rfl) in_X9_X11_span nw_X11_72 rfl dX11_span_4 ?_
  refine g_iload_n (pc := 7) C dX11_span_7 rfl 1 rfl ?_
  refine g_callV (pc := 8) C 2 (c_X4_has (Xl X) (Xb X) a1 S) gX11_span_X4_has rfl rfl rfl hd_X4_has ⟨Nat.le_of_ble_eq_true rfl, Nat.le_of_ble_eq_true rfl⟩ (w_2 _ _) rfl rfl rfl (Nat.le_of_ble_eq_true rfl) dX11_span_8 h (fun r2 S1 h => ?_)
  change G X _ S1 11 [(0, .ref (ad X 0)), (1, .int a1), (2, .int a2)] [.int r2]
  refine g_if_ne (pc := 11) (tgt := 18) C h dX11_span_11 (by decide) (fun h => ?_) (fun h => ?_)
  · refine g_iload_n (pc := 18) C dX11_span_18 rfl 2 rfl ?_
    by_cases hq3 : a2 = 0
    · replace h := ite_t h hq3
      refine g_swIn (pc := 19) (tgt := 44) C 0 hq3 dX11_span_19 (by decide) (by decide) rfl (by decide) ?_
      refine g_aload_n (pc := 44) C dX11_span_44 rfl 0 rfl ?_
      refine g_get (pc := 45) C 0 (w_0 _ _) rfl 7 (Nat.le_of_ble_eq_true rfl) in_X11_X11_span k58_X11_span rfl dX11_span_45 ?_
      refine g_iload_n (pc := 48) C dX11_span_48 rfl 1 rfl ?_
      refine g_callV (pc := 49) C 11 (c_X1_howManyOf (Xl X) (Xb X) a1 S1) gX11_span_X1_howManyOf rfl rfl rfl hd_X1_howManyOf ⟨Nat.le_of_ble_eq_true rfl, Nat.le_of_ble_eq_true rfl⟩ (w_11 _ _) rfl rfl rfl (Nat.le_of_ble_eq_true rfl) dX11_span_49 h (fun r5 S4 h => ?_)
      change G X _ S4 52 [(0, .ref (ad X 0)), (1, .int a1), (2, .int a2)] [.int r5]
      exact g_iret (pc := 52) C h dX11_span_52
    replace h := ite_f h hq3
    by_cases hq6 : a2 = 1
    · replace h := ite_t h hq6
      refine g_swIn (pc := 19) (tgt := 53) C 1 hq6 dX11_span_19 (by decide) (by decide) rfl (by decide) ?_
      refine g_aload_n (pc := 53) C dX11_span_53 rfl 0 rfl ?_
      refine g_get (pc := 54) C 0 (w_0 _ _) rfl 7 (Nat.le_of_ble_eq_true rfl) in_X11_X11_span k58_X11_span rfl dX11_span_54 ?_
      refine g_iload_n (pc := 57) C dX11_span_57 rfl 1 rfl ?_
      refine g_callV (pc := 58) C 11 (c_X1_firstBeginOf (Xl X) (Xb X) a1 S1) gX11_span_X1_firstBeginOf rfl rfl rfl hd_X1_firstBeginOf ⟨Nat.le_of_ble_eq_true rfl, Nat.le_of_ble_eq_true rfl⟩ (w_11 _ _) rfl rfl rfl (Nat.le_of_ble_eq_true rfl) dX11_span_58 h (fun r8 S7 h => ?_)
      change G X _ S7 61 [(0, .ref (ad X 0)), (1, .int a1), (2, .int a2)] [.int r8]
      exact g_iret (pc := 61) C h dX11_span_61
    replace h := ite_f h hq6
    by_cases hq9 : a2 = 2
    · replace h := ite_t h hq9
      refine g_swIn (pc := 19) (tgt := 62) C 2 hq9 dX11_span_19 (by decide) (by decide) rfl (by decide) ?_
      refine g_aload_n (pc := 62) C dX11_span_62 rfl 0 rfl ?_
      refine g_get (pc := 63) C 0 (w_0 _ _) rfl 7 (Nat.le_of_ble_eq_true rfl) in_X11_X11_span k58_X11_span rfl dX11_span_63 ?_
      refine g_iload_n (pc := 66) C dX11_span_66 rfl 1 rfl ?_
      refine g_callV (pc := 67) C 11 (c_X1_lastEndOf (Xl X) (Xb X) a1 S1) gX11_span_X1_lastEndOf rfl rfl rfl hd_X1_lastEndOf ⟨Nat.le_of_ble_eq_true rfl, Nat.le_of_ble_eq_true rfl⟩ (w_11 _ _) rfl rfl rfl (Nat.le_of_ble_eq_true rfl) dX11_span_67 h (fun r11 S10 h => ?_)
      change G X _ S10 70 [(0, .ref (ad X 0)), (1, .int a1), (2, .int a2)] [.int r11]
      exact g_iret (pc := 70) C h dX11_span_70
    replace h := ite_f h hq9
    refine g_swOut (pc := 19) (tgt := 71) C (sw_out_2 hq3 hq6 hq9) dX11_span_19 (by decide) ?_
    refine g_sipush (pc := 71) (v := (-1001)) C dX11_span_71 (by decide) ?_
    exact g_iret (pc := 74) C h dX11_span_74
  · refine g_sipush (pc := 14) (v := (-1001)) C dX11_span_14 (by decide) ?_
    exact g_iret (pc := 17) C h dX11_span_17
theorem c_X11_span (l : Launch) (b : Bw) (a1 : Int32) (a2 : Int32) (S : St) : Ct l b yX11_span wsX11_span rmX11_span [.ref (bad b 0), .int a1, .int a2] S mkI (f_X11_span a1 a2 S) := Ct.of (by decide +kernel) rfl (Nat.le_of_ble_eq_true rfl) (fun X C hl hb r h => by
  subst hl; subst hb
  exact s_X11_span_b0 C a1 a2 S h)
/-! StyleRows.timeOf(I)I -/
set_option maxRecDepth 100000 in
set_option maxHeartbeats 4000000 in
theorem s_X11_timeOf_b24 {X : MC} (C : Cx X cX11_timeOf RX11 wsX11_timeOf 2 rmX11_timeOf (some .int)) (w0 : Int32) (S : St) {r0 : Int32 × St} (h : f_X11_timeOf_b24 w0 S = some r0) : G X (QM mkI X r0) S 24 [] [.int w0] := by
  unfold f_X11_timeOf_b24 at h
  exact g_iret (pc := 24) C h dX11_timeOf_24
set_option maxRecDepth 100000 in
set_option maxHeartbeats 4000000 in
theorem s_X11_timeOf_b0 {X : MC} (C : Cx X cX11_timeOf RX11 wsX11_timeOf 2 rmX11_timeOf (some .int)) (a1 : Int32) (S : St) {r0 : Int32 × St} (h : f_X11_timeOf_b0 a1 S = some r0) : G X (QM mkI X r0) S 0 [(0, .ref (ad X 0)), (1, .int a1)] [] := by
  unfold f_X11_timeOf_b0 at h
  refine g_iload_n (pc := 0) C dX11_timeOf_0 rfl 1 rfl ?_
  refine g_callS (pc := 1) C (c_X11_isTick (Xl X) (Xb X) a1 S) gX11_timeOf_X11_isTick rfl rfl rfl hd_X11_isTick ⟨Nat.le_of_ble_eq_true rfl, Nat.le_of_ble_eq_true rfl⟩ rfl rfl (Nat.le_of_ble_eq_true rfl) dX11_timeOf_1 h (fun r2 S1 h => ?_)
  change G X _ S1 4 [(0, .ref (ad X 0)), (1, .int a1)] [.int r2]
  refine g_if_eq (pc := 4) (tgt := 21) C h dX11_timeOf_4 (by decide) (fun h => ?_) (fun h => ?_)
  · refine g_sipush (pc := 21) (v := (-1002)) C dX11_timeOf_21 (by decide) ?_
    refine g_weak (lv1 := []) [] rfl ?_
    exact s_X11_timeOf_b24 C (-1002)  S1 h
  · refine g_aload_n (pc := 7) C dX11_timeOf_7 rfl 0 rfl ?_
    refine g_get (pc := 8) C 0 (w_0 _ _) rfl 1 (Nat.le_of_ble_eq_true rfl) in_X11_X11_timeOf k16_X11_timeOf rfl dX11_timeOf_8 ?_
    refine g_getN (pc := 11) C 1 (w_1 _ _) rfl 2 (Nat.le_of_ble_eq_true rfl) in_X9_X11_timeOf nw_X11_104 rfl dX11_timeOf_11 ?_
    refine g_iload_n (pc := 14) C dX11_timeOf_14 rfl 1 rfl ?_
    refine g_callV (pc := 15) C 4 (c_X0_bent (Xl X) (Xb X) a1 S1) gX11_timeOf_X0_bent rfl rfl rfl hd_X0_bent ⟨Nat.le_of_ble_eq_true rfl, Nat.le_of_ble_eq_true rfl⟩ (w_4 _ _) rfl rfl rfl (Nat.le_of_ble_eq_true rfl) dX11_timeOf_15 h (fun r4 S3 h => ?_)
    change G X _ S3 18 [(0, .ref (ad X 0)), (1, .int a1)] [.int r4]
    refine g_goto (pc := 18) (tgt := 24) C dX11_timeOf_18 (by decide) ?_
    refine g_weak (lv1 := []) [] rfl ?_
    exact s_X11_timeOf_b24 C r4  S3 h
theorem c_X11_timeOf (l : Launch) (b : Bw) (a1 : Int32) (S : St) : Ct l b yX11_timeOf wsX11_timeOf rmX11_timeOf [.ref (bad b 0), .int a1] S mkI (f_X11_timeOf a1 S) := Ct.of (by decide +kernel) rfl (Nat.le_of_ble_eq_true rfl) (fun X C hl hb r h => by
  subst hl; subst hb
  exact s_X11_timeOf_b0 C a1 S h)
/-! StyleRows$Names.has(I)Z -/
set_option maxRecDepth 100000 in
set_option maxHeartbeats 4000000 in
theorem s_X3_has_b0 {X : MC} (C : Cx X cX3_has RX3 wsX3_has 1 rmX3_has (some .boolean)) (a1 : Int32) (S : St) {r0 : Int32 × St} (h : f_X3_has_b0 a1 S = some r0) : G X (QM mkI X r0) S 0 [(0, .int a1)] [] := by
  unfold f_X3_has_b0 at h
  refine g_iload_n (pc := 0) C dX3_has_0 rfl 0 rfl ?_
  refine g_iconst (pc := 1) (v := 0) C dX3_has_1 (by decide) ?_
  refine g_bipush (pc := 2) (v := 12) C dX3_has_2 (by decide) ?_
  refine g_callSN (pc := 4) C (c_X11_isWithin (Xl X) (Xb X) a1 0 12 S) gX3_has_X11_isWithin_n9 rfl rfl rfl nw_X3_9 kiniX11_X3_has kstX11_isWithin_X3_has hd_X11_isWithin ⟨Nat.le_of_ble_eq_true rfl, Nat.le_of_ble_eq_true rfl⟩ rfl rfl (Nat.le_of_ble_eq_true rfl) dX3_has_4 h (fun r2 S1 h => ?_)
  change G X _ S1 7 [(0, .int a1)] [.int r2]
  exact g_zret (pc := 7) C h dX3_has_7
theorem c_X3_has (l : Launch) (b : Bw) (a1 : Int32) (S : St) : Ct l b yX3_has wsX3_has rmX3_has [.int a1] S mkI (f_X3_has a1 S) := Ct.of (by decide +kernel) rfl (Nat.le_of_ble_eq_true rfl) (fun X C hl hb r h => by
  subst hl; subst hb
  exact s_X3_has_b0 C a1 S h)
/-! StyleRows.value(II)I -/
set_option maxRecDepth 100000 in
set_option maxHeartbeats 4000000 in
theorem s_X11_value_b29 {X : MC} (C : Cx X cX11_value RX11 wsX11_value 3 rmX11_value (some .int)) (w0 : Int32) (S : St) {r0 : Int32 × St} (h : f_X11_value_b29 w0 S = some r0) : G X (QM mkI X r0) S 29 [] [.int w0] := by
  unfold f_X11_value_b29 at h
  exact g_iret (pc := 29) C h dX11_value_29
set_option maxRecDepth 100000 in
set_option maxHeartbeats 4000000 in
theorem s_X11_value_b26 {X : MC} (C : Cx X cX11_value RX11 wsX11_value 3 rmX11_value (some .int)) (S : St) {r0 : Int32 × St} (h : f_X11_value_b26 S = some r0) : G X (QM mkI X r0) S 26 [] [] := by
  unfold f_X11_value_b26 at h
  refine g_sipush (pc := 26) (v := (-1001)) C dX11_value_26 (by decide) ?_
  refine g_weak (lv1 := []) [] rfl ?_
  exact s_X11_value_b29 C (-1001)  S h
set_option maxRecDepth 100000 in
set_option maxHeartbeats 4000000 in
theorem s_X11_value_b0 {X : MC} (C : Cx X cX11_value RX11 wsX11_value 3 rmX11_value (some .int)) (a1 : Int32) (a2 : Int32) (S : St) {r0 : Int32 × St} (h : f_X11_value_b0 a1 a2 S = some r0) : G X (QM mkI X r0) S 0 [(0, .ref (ad X 0)), (1, .int a1), (2, .int a2)] [] := by
  unfold f_X11_value_b0 at h
  refine g_iload_n (pc := 0) C dX11_value_0 rfl 1 rfl ?_
  refine g_callS (pc := 1) C (c_X11_isVoice (Xl X) (Xb X) a1 S) gX11_value_X11_isVoice rfl rfl rfl hd_X11_isVoice ⟨Nat.le_of_ble_eq_true rfl, Nat.le_of_ble_eq_true rfl⟩ rfl rfl (Nat.le_of_ble_eq_true rfl) dX11_value_1 h (fun r2 S1 h => ?_)
  change G X _ S1 4 [(0, .ref (ad X 0)), (1, .int a1), (2, .int a2)] [.int r2]
  refine g_if_eq (pc := 4) (tgt := 26) C h dX11_value_4 (by decide) (fun h => ?_) (fun h => ?_)
  · refine g_weak (lv1 := []) [] rfl ?_
    exact s_X11_value_b26 C   S1 h
  · refine g_iload_n (pc := 7) C dX11_value_7 rfl 2 rfl ?_
    refine g_callS (pc := 8) C (c_X3_has (Xl X) (Xb X) a2 S1) gX11_value_X3_has rfl rfl rfl hd_X3_has ⟨Nat.le_of_ble_eq_true rfl, Nat.le_of_ble_eq_true rfl⟩ rfl rfl (Nat.le_of_ble_eq_true rfl) dX11_value_8 h (fun r4 S3 h => ?_)
    change G X _ S3 11 [(0, .ref (ad X 0)), (1, .int a1), (2, .int a2)] [.int r4]
    refine g_if_eq (pc := 11) (tgt := 26) C h dX11_value_11 (by decide) (fun h => ?_) (fun h => ?_)
    · refine g_weak (lv1 := []) [] rfl ?_
      exact s_X11_value_b26 C   S3 h
    · refine g_aload_n (pc := 14) C dX11_value_14 rfl 0 rfl ?_
      refine g_get (pc := 15) C 0 (w_0 _ _) rfl 3 (Nat.le_of_ble_eq_true rfl) in_X11_X11_value k30_X11_value rfl dX11_value_15 ?_
      refine g_iload_n (pc := 18) C dX11_value_18 rfl 1 rfl ?_
      refine g_iload_n (pc := 19) C dX11_value_19 rfl 2 rfl ?_
      refine g_callV (pc := 20) C 6 (c_X8_numberFor (Xl X) (Xb X) a1 a2 S3) gX11_value_X8_numberFor rfl rfl rfl hd_X8_numberFor ⟨Nat.le_of_ble_eq_true rfl, Nat.le_of_ble_eq_true rfl⟩ (w_6 _ _) rfl rfl rfl (Nat.le_of_ble_eq_true rfl) dX11_value_20 h (fun r6 S5 h => ?_)
      change G X _ S5 23 [(0, .ref (ad X 0)), (1, .int a1), (2, .int a2)] [.int r6]
      refine g_goto (pc := 23) (tgt := 29) C dX11_value_23 (by decide) ?_
      refine g_weak (lv1 := []) [] rfl ?_
      exact s_X11_value_b29 C r6  S5 h
theorem c_X11_value (l : Launch) (b : Bw) (a1 : Int32) (a2 : Int32) (S : St) : Ct l b yX11_value wsX11_value rmX11_value [.ref (bad b 0), .int a1, .int a2] S mkI (f_X11_value a1 a2 S) := Ct.of (by decide +kernel) rfl (Nat.le_of_ble_eq_true rfl) (fun X C hl hb r h => by
  subst hl; subst hb
  exact s_X11_value_b0 C a1 a2 S h)
/-! StyleRows.why(II)I -/
set_option maxRecDepth 100000 in
set_option maxHeartbeats 4000000 in
theorem s_X11_why_b29 {X : MC} (C : Cx X cX11_why RX11 wsX11_why 3 rmX11_why (some .int)) (w0 : Int32) (S : St) {r0 : Int32 × St} (h : f_X11_why_b29 w0 S = some r0) : G X (QM mkI X r0) S 29 [] [.int w0] := by
  unfold f_X11_why_b29 at h
  exact g_iret (pc := 29) C h dX11_why_29
set_option maxRecDepth 100000 in
set_option maxHeartbeats 4000000 in
theorem s_X11_why_b26 {X : MC} (C : Cx X cX11_why RX11 wsX11_why 3 rmX11_why (some .int)) (S : St) {r0 : Int32 × St} (h : f_X11_why_b26 S = some r0) : G X (QM mkI X r0) S 26 [] [] := by
  unfold f_X11_why_b26 at h
  refine g_sipush (pc := 26) (v := (-1001)) C dX11_why_26 (by decide) ?_
  refine g_weak (lv1 := []) [] rfl ?_
  exact s_X11_why_b29 C (-1001)  S h
set_option maxRecDepth 100000 in
set_option maxHeartbeats 4000000 in
theorem s_X11_why_b0 {X : MC} (C : Cx X cX11_why RX11 wsX11_why 3 rmX11_why (some .int)) (a1 : Int32) (a2 : Int32) (S : St) {r0 : Int32 × St} (h : f_X11_why_b0 a1 a2 S = some r0) : G X (QM mkI X r0) S 0 [(0, .ref (ad X 0)), (1, .int a1), (2, .int a2)] [] := by
  unfold f_X11_why_b0 at h
  refine g_iload_n (pc := 0) C dX11_why_0 rfl 1 rfl ?_
  refine g_callS (pc := 1) C (c_X11_isVoice (Xl X) (Xb X) a1 S) gX11_why_X11_isVoice rfl rfl rfl hd_X11_isVoice ⟨Nat.le_of_ble_eq_true rfl, Nat.le_of_ble_eq_true rfl⟩ rfl rfl (Nat.le_of_ble_eq_true rfl) dX11_why_1 h (fun r2 S1 h => ?_)
  change G X _ S1 4 [(0, .ref (ad X 0)), (1, .int a1), (2, .int a2)] [.int r2]
  refine g_if_eq (pc := 4) (tgt := 26) C h dX11_why_4 (by decide) (fun h => ?_) (fun h => ?_)
  · refine g_weak (lv1 := []) [] rfl ?_
    exact s_X11_why_b26 C   S1 h
  · refine g_iload_n (pc := 7) C dX11_why_7 rfl 2 rfl ?_
    refine g_callS (pc := 8) C (c_X3_has (Xl X) (Xb X) a2 S1) gX11_why_X3_has rfl rfl rfl hd_X3_has ⟨Nat.le_of_ble_eq_true rfl, Nat.le_of_ble_eq_true rfl⟩ rfl rfl (Nat.le_of_ble_eq_true rfl) dX11_why_8 h (fun r4 S3 h => ?_)
    change G X _ S3 11 [(0, .ref (ad X 0)), (1, .int a1), (2, .int a2)] [.int r4]
    refine g_if_eq (pc := 11) (tgt := 26) C h dX11_why_11 (by decide) (fun h => ?_) (fun h => ?_)
    · refine g_weak (lv1 := []) [] rfl ?_
      exact s_X11_why_b26 C   S3 h
    · refine g_aload_n (pc := 14) C dX11_why_14 rfl 0 rfl ?_
      refine g_get (pc := 15) C 0 (w_0 _ _) rfl 3 (Nat.le_of_ble_eq_true rfl) in_X11_X11_why k30_X11_why rfl dX11_why_15 ?_
      refine g_iload_n (pc := 18) C dX11_why_18 rfl 1 rfl ?_
      refine g_iload_n (pc := 19) C dX11_why_19 rfl 2 rfl ?_
      refine g_callV (pc := 20) C 6 (c_X8_countingFor (Xl X) (Xb X) a1 a2 S3) gX11_why_X8_countingFor rfl rfl rfl hd_X8_countingFor ⟨Nat.le_of_ble_eq_true rfl, Nat.le_of_ble_eq_true rfl⟩ (w_6 _ _) rfl rfl rfl (Nat.le_of_ble_eq_true rfl) dX11_why_20 h (fun r6 S5 h => ?_)
      change G X _ S5 23 [(0, .ref (ad X 0)), (1, .int a1), (2, .int a2)] [.int r6]
      refine g_goto (pc := 23) (tgt := 29) C dX11_why_23 (by decide) ?_
      refine g_weak (lv1 := []) [] rfl ?_
      exact s_X11_why_b29 C r6  S5 h
theorem c_X11_why (l : Launch) (b : Bw) (a1 : Int32) (a2 : Int32) (S : St) : Ct l b yX11_why wsX11_why rmX11_why [.ref (bad b 0), .int a1, .int a2] S mkI (f_X11_why a1 a2 S) := Ct.of (by decide +kernel) rfl (Nat.le_of_ble_eq_true rfl) (fun X C hl hb r h => by
  subst hl; subst hb
  exact s_X11_why_b0 C a1 a2 S h)
