theorem c_J0_length_8abf5 (l : Launch) (b : Bw) (i : Nat) (S : St) : Ct l b yJ0_length_8abf5 wsJ0_length_8abf5 rmJ0_length_8abf5 [.ref (bK b i)] S mkI (f_J0_length_8abf5 i S) := sorry
theorem c_J0_charAt_5068e (l : Launch) (b : Bw) (i : Nat) (k : Int32) (S : St) : Ct l b yJ0_charAt_5068e wsJ0_charAt_5068e rmJ0_charAt_5068e [.ref (bK b i), .int k] S mkI (f_J0_charAt_5068e i k S) := sorry
/-! java/lang/Math.floorDiv(JJ)J -/
set_option maxRecDepth 100000 in
set_option maxHeartbeats 4000000 in
theorem s_J9_floorDiv_f86c9_b27 {X : MC} (C : Cx X cJ9_floorDiv_f86c9 RJ9 wsJ9_floorDiv_f86c9 6 rmJ9_floorDiv_f86c9 (some .long)) (v4 : Int64) (S : St) {r0 : Int64 × St} (h : f_J9_floorDiv_f86c9_b27 v4 S = some r0) : G X (QM mkL X r0) S 27 [(4, .long v4)] [] := by
  unfold f_J9_floorDiv_f86c9_b27 at h
  refine g_lload (pc := 27) C dJ9_floorDiv_f86c9_27 0 rfl ?_
  exact g_lret (pc := 29) C h dJ9_floorDiv_f86c9_29
set_option maxRecDepth 100000 in
set_option maxHeartbeats 4000000 in
theorem s_J9_floorDiv_f86c9_b0 {X : MC} (C : Cx X cJ9_floorDiv_f86c9 RJ9 wsJ9_floorDiv_f86c9 6 rmJ9_floorDiv_f86c9 (some .long)) (a1 : Int64) (a2 : Int64) (S : St) {r0 : Int64 × St} (h : f_J9_floorDiv_f86c9_b0 a1 a2 S = some r0) : G X (QM mkL X r0) S 0 [(0, .long a1), (2, .long a2)] [] := by
  unfold f_J9_floorDiv_f86c9_b0 at h
  refine g_lload_n (pc := 0) C dJ9_floorDiv_f86c9_0 rfl 0 rfl ?_
  refine g_lload_n (pc := 1) C dJ9_floorDiv_f86c9_1 rfl 1 rfl ?_
  refine g_ldiv (pc := 2) C h dJ9_floorDiv_f86c9_2 (fun h => ?_)
  refine g_letl h (fun y1 h => ?_)
  refine g_lstore (pc := 3) C [(4, .long y1), (0, .long a1), (2, .long a2)] dJ9_floorDiv_f86c9_3 (Nat.le_of_ble_eq_true rfl) rfl ?_
  refine g_lload_n (pc := 5) C dJ9_floorDiv_f86c9_5 rfl 1 rfl ?_
  refine g_lload_n (pc := 6) C dJ9_floorDiv_f86c9_6 rfl 2 rfl ?_
  refine g_lxor (pc := 7) C dJ9_floorDiv_f86c9_7 ?_
  refine g_lconst (pc := 8) (v := 0) C dJ9_floorDiv_f86c9_8 (by decide) ?_
  refine g_lcmp (pc := 9) C dJ9_floorDiv_f86c9_9 ?_
  refine g_if_ge (pc := 10) (tgt := 27) C h dJ9_floorDiv_f86c9_10 (by decide) (fun h => ?_) (fun h => ?_)
  · refine g_weak (lv1 := [(4, .long y1)]) [0] rfl ?_
    exact s_J9_floorDiv_f86c9_b27 C y1  S h
  · refine g_lload (pc := 13) C dJ9_floorDiv_f86c9_13 0 rfl ?_
    refine g_lload_n (pc := 15) C dJ9_floorDiv_f86c9_15 rfl 2 rfl ?_
    refine g_lmul (pc := 16) C dJ9_floorDiv_f86c9_16 ?_
    refine g_lload_n (pc := 17) C dJ9_floorDiv_f86c9_17 rfl 1 rfl ?_
    refine g_lcmp (pc := 18) C dJ9_floorDiv_f86c9_18 ?_
    refine g_if_eq (pc := 19) (tgt := 27) C h dJ9_floorDiv_f86c9_19 (by decide) (fun h => ?_) (fun h => ?_)
    · refine g_weak (lv1 := [(4, .long y1)]) [0] rfl ?_
      exact s_J9_floorDiv_f86c9_b27 C y1  S h
    · refine g_lload (pc := 22) C dJ9_floorDiv_f86c9_22 0 rfl ?_
      refine g_lconst (pc := 24) (v := 1) C dJ9_floorDiv_f86c9_24 (by decide) ?_
      refine g_lsub (pc := 25) C dJ9_floorDiv_f86c9_25 ?_
      exact g_lret (pc := 26) C h dJ9_floorDiv_f86c9_26
theorem c_J9_floorDiv_f86c9 (l : Launch) (b : Bw) (a1 : Int64) (a2 : Int64) (S : St) : Ct l b yJ9_floorDiv_f86c9 wsJ9_floorDiv_f86c9 rmJ9_floorDiv_f86c9 [.long a1, .long a2] S mkL (f_J9_floorDiv_f86c9 a1 a2 S) := Ct.of (by decide +kernel) rfl (Nat.le_of_ble_eq_true rfl) (fun X C hl hb r h => by
  subst hl; subst hb
  exact s_J9_floorDiv_f86c9_b0 C a1 a2 S h)
/-! java/lang/Math.floorMod(JJ)J -/
set_option maxRecDepth 100000 in
set_option maxHeartbeats 4000000 in
theorem s_J9_floorMod_f86c9_b25 {X : MC} (C : Cx X cJ9_floorMod_f86c9 RJ9 wsJ9_floorMod_f86c9 6 rmJ9_floorMod_f86c9 (some .long)) (v4 : Int64) (S : St) {r0 : Int64 × St} (h : f_J9_floorMod_f86c9_b25 v4 S = some r0) : G X (QM mkL X r0) S 25 [(4, .long v4)] [] := by
  unfold f_J9_floorMod_f86c9_b25 at h
  refine g_lload (pc := 25) C dJ9_floorMod_f86c9_25 0 rfl ?_
  exact g_lret (pc := 27) C h dJ9_floorMod_f86c9_27
set_option maxRecDepth 100000 in
set_option maxHeartbeats 4000000 in
theorem s_J9_floorMod_f86c9_b0 {X : MC} (C : Cx X cJ9_floorMod_f86c9 RJ9 wsJ9_floorMod_f86c9 6 rmJ9_floorMod_f86c9 (some .long)) (a1 : Int64) (a2 : Int64) (S : St) {r0 : Int64 × St} (h : f_J9_floorMod_f86c9_b0 a1 a2 S = some r0) : G X (QM mkL X r0) S 0 [(0, .long a1), (2, .long a2)] [] := by
  unfold f_J9_floorMod_f86c9_b0 at h
  refine g_lload_n (pc := 0) C dJ9_floorMod_f86c9_0 rfl 0 rfl ?_
  refine g_lload_n (pc := 1) C dJ9_floorMod_f86c9_1 rfl 1 rfl ?_
  refine g_lrem (pc := 2) C h dJ9_floorMod_f86c9_2 (fun h => ?_)
  refine g_letl h (fun y1 h => ?_)
  refine g_lstore (pc := 3) C [(4, .long y1), (0, .long a1), (2, .long a2)] dJ9_floorMod_f86c9_3 (Nat.le_of_ble_eq_true rfl) rfl ?_
  refine g_lload_n (pc := 5) C dJ9_floorMod_f86c9_5 rfl 1 rfl ?_
  refine g_lload_n (pc := 6) C dJ9_floorMod_f86c9_6 rfl 2 rfl ?_
  refine g_lxor (pc := 7) C dJ9_floorMod_f86c9_7 ?_
  refine g_lconst (pc := 8) (v := 0) C dJ9_floorMod_f86c9_8 (by decide) ?_
  refine g_lcmp (pc := 9) C dJ9_floorMod_f86c9_9 ?_
  refine g_if_ge (pc := 10) (tgt := 25) C h dJ9_floorMod_f86c9_10 (by decide) (fun h => ?_) (fun h => ?_)
  · refine g_weak (lv1 := [(4, .long y1)]) [0] rfl ?_
    exact s_J9_floorMod_f86c9_b25 C y1  S h
  · refine g_lload (pc := 13) C dJ9_floorMod_f86c9_13 0 rfl ?_
    refine g_lconst (pc := 15) (v := 0) C dJ9_floorMod_f86c9_15 (by decide) ?_
    refine g_lcmp (pc := 16) C dJ9_floorMod_f86c9_16 ?_
    refine g_if_eq (pc := 17) (tgt := 25) C h dJ9_floorMod_f86c9_17 (by decide) (fun h => ?_) (fun h => ?_)
    · refine g_weak (lv1 := [(4, .long y1)]) [0] rfl ?_
      exact s_J9_floorMod_f86c9_b25 C y1  S h
    · refine g_lload (pc := 20) C dJ9_floorMod_f86c9_20 0 rfl ?_
      refine g_lload_n (pc := 22) C dJ9_floorMod_f86c9_22 rfl 2 rfl ?_
      refine g_ladd (pc := 23) C dJ9_floorMod_f86c9_23 ?_
      exact g_lret (pc := 24) C h dJ9_floorMod_f86c9_24
theorem c_J9_floorMod_f86c9 (l : Launch) (b : Bw) (a1 : Int64) (a2 : Int64) (S : St) : Ct l b yJ9_floorMod_f86c9 wsJ9_floorMod_f86c9 rmJ9_floorMod_f86c9 [.long a1, .long a2] S mkL (f_J9_floorMod_f86c9 a1 a2 S) := Ct.of (by decide +kernel) rfl (Nat.le_of_ble_eq_true rfl) (fun X C hl hb r h => by
  subst hl; subst hb
  exact s_J9_floorMod_f86c9_b0 C a1 a2 S h)
/-! java/lang/Math.floorMod(JI)I -/
set_option maxRecDepth 100000 in
set_option maxHeartbeats 4000000 in
theorem s_J9_floorMod_1978a_b0 {X : MC} (C : Cx X cJ9_floorMod_1978a RJ9 wsJ9_floorMod_1978a 3 rmJ9_floorMod_1978a (some .int)) (a1 : Int64) (a2 : Int32) (S : St) {r0 : Int32 × St} (h : f_J9_floorMod_1978a_b0 a1 a2 S = some r0) : G X (QM mkI X r0) S 0 [(0, .long a1), (2, .int a2)] [] := by
  unfold f_J9_floorMod_1978a_b0 at h
  refine g_lload_n (pc := 0) C dJ9_floorMod_1978a_0 rfl 0 rfl ?_
  refine g_iload_n (pc := 1) C dJ9_floorMod_1978a_1 rfl 1 rfl ?_
  refine g_i2l (pc := 2) C dJ9_floorMod_1978a_2 ?_
  refine g_callS (pc := 3) C (c_J9_floorMod_f86c9 (Xl X) (Xb X) a1 (Int32.toInt64 a2) S) gJ9_floorMod_1978a_J9_floorMod_f86c9 rfl rfl rfl hd_J9_floorMod_f86c9 ⟨Nat.le_of_ble_eq_true rfl, Nat.le_of_ble_eq_true rfl⟩ rfl rfl (Nat.le_of_ble_eq_true rfl) dJ9_floorMod_1978a_3 h (fun r2 S1 h => ?_)
  change G X _ S1 6 [(0, .long a1), (2, .int a2)] [.long r2]
  refine g_l2i (pc := 6) C dJ9_floorMod_1978a_6 ?_
  exact g_iret (pc := 7) C h dJ9_floorMod_1978a_7
theorem c_J9_floorMod_1978a (l : Launch) (b : Bw) (a1 : Int64) (a2 : Int32) (S : St) : Ct l b yJ9_floorMod_1978a wsJ9_floorMod_1978a rmJ9_floorMod_1978a [.long a1, .int a2] S mkI (f_J9_floorMod_1978a a1 a2 S) := Ct.of (by decide +kernel) rfl (Nat.le_of_ble_eq_true rfl) (fun X C hl hb r h => by
  subst hl; subst hb
  exact s_J9_floorMod_1978a_b0 C a1 a2 S h)
/-! StyleRows$Arcs.add(III)I -/
set_option maxRecDepth 100000 in
set_option maxHeartbeats 4000000 in
theorem s_X0_add_b0 {X : MC} (C : Cx X cX0_add RX0 wsX0_add 4 rmX0_add (some .int)) (a1 : Int32) (a2 : Int32) (a3 : Int32) (S : St) {r0 : Int32 × St} (h : f_X0_add_b0 a1 a2 a3 S = some r0) : G X (QM mkI X r0) S 0 [(0, .ref (ad X 4)), (1, .int a1), (2, .int a2), (3, .int a3)] [] := by
  unfold f_X0_add_b0 at h
  refine g_aload_n (pc := 0) C dX0_add_0 rfl 0 rfl ?_
  refine g_get (pc := 1) C 4 (w_4 _ _) rfl 3 (Nat.le_of_ble_eq_true rfl) in_X0_X0_add k21_X0_add rfl dX0_add_1 ?_
  refine g_bipush (pc := 4) (v := 6) C dX0_add_4 (by decide) ?_
  refine g_icmp_lt (pc := 6) (tgt := 13) C h dX0_add_6 (by decide) (fun h => ?_) (fun h => ?_)
  · refine g_aload_n (pc := 13) C dX0_add_13 rfl 0 rfl ?_
    refine g_get (pc := 14) C 4 (w_4 _ _) rfl 0 (Nat.le_of_ble_eq_true rfl) in_X0_X0_add k11_X0_add rfl dX0_add_14 ?_
    refine g_aload_n (pc := 17) C dX0_add_17 rfl 0 rfl ?_
    refine g_get (pc := 18) C 4 (w_4 _ _) rfl 3 (Nat.le_of_ble_eq_true rfl) in_X0_X0_add k21_X0_add rfl dX0_add_18 ?_
    refine g_iload_n (pc := 21) C dX0_add_21 rfl 1 rfl ?_
    refine g_iast (pc := 22) C 21 (w_21 _ _) (ws_21 _ _) h dX0_add_22 (fun S1 h => ?_)
    refine g_aload_n (pc := 23) C dX0_add_23 rfl 0 rfl ?_
    refine g_get (pc := 24) C 4 (w_4 _ _) rfl 1 (Nat.le_of_ble_eq_true rfl) in_X0_X0_add k15_X0_add rfl dX0_add_24 ?_
    refine g_aload_n (pc := 27) C dX0_add_27 rfl 0 rfl ?_
    refine g_get (pc := 28) C 4 (w_4 _ _) rfl 3 (Nat.le_of_ble_eq_true rfl) in_X0_X0_add k21_X0_add rfl dX0_add_28 ?_
    refine g_iload_n (pc := 31) C dX0_add_31 rfl 2 rfl ?_
    refine g_iast (pc := 32) C 22 (w_22 _ _) (ws_22 _ _) h dX0_add_32 (fun S2 h => ?_)
    refine g_aload_n (pc := 33) C dX0_add_33 rfl 0 rfl ?_
    refine g_get (pc := 34) C 4 (w_4 _ _) rfl 2 (Nat.le_of_ble_eq_true rfl) in_X0_X0_add k18_X0_add rfl dX0_add_34 ?_
    refine g_aload_n (pc := 37) C dX0_add_37 rfl 0 rfl ?_
    refine g_get (pc := 38) C 4 (w_4 _ _) rfl 3 (Nat.le_of_ble_eq_true rfl) in_X0_X0_add k21_X0_add rfl dX0_add_38 ?_
    refine g_iload_n (pc := 41) C dX0_add_41 rfl 3 rfl ?_
    refine g_iast (pc := 42) C 23 (w_23 _ _) (ws_23 _ _) h dX0_add_42 (fun S3 h => ?_)
    refine g_aload_n (pc := 43) C dX0_add_43 rfl 0 rfl ?_
    refine g_dup (pc := 44) C dX0_add_44 rfl ?_
    refine g_get (pc := 45) C 4 (w_4 _ _) rfl 3 (Nat.le_of_ble_eq_true rfl) in_X0_X0_add k21_X0_add rfl dX0_add_45 ?_
    refine g_iconst (pc := 48) (v := 1) C dX0_add_48 (by decide) ?_
    refine g_iadd (pc := 49) C dX0_add_49 ?_
    refine g_put (pc := 50) C 4 (w_4 _ _) rfl 3 (Nat.le_of_ble_eq_true rfl) in_X0_X0_add tyX0_ok nmX0 k21_X0_add rfl rfl rfl (Nat.le_of_ble_eq_true rfl) (ws_4_3 _ _ _) dX0_add_50 h (fun S4 h => ?_)
    refine g_aload_n (pc := 53) C dX0_add_53 rfl 0 rfl ?_
    refine g_get (pc := 54) C 4 (w_4 _ _) rfl 3 (Nat.le_of_ble_eq_true rfl) in_X0_X0_add k21_X0_add rfl dX0_add_54 ?_
    exact g_iret (pc := 57) C h dX0_add_57
  · refine g_sipush (pc := 9) (v := (-1004)) C dX0_add_9 (by decide) ?_
    exact g_iret (pc := 12) C h dX0_add_12
theorem c_X0_add (l : Launch) (b : Bw) (a1 : Int32) (a2 : Int32) (a3 : Int32) (S : St) : Ct l b yX0_add wsX0_add rmX0_add [.ref (bad b 4), .int a1, .int a2, .int a3] S mkI (f_X0_add a1 a2 a3 S) := Ct.of (by decide +kernel) rfl (Nat.le_of_ble_eq_true rfl) (fun X C hl hb r h => by
  subst hl; subst hb
  exact s_X0_add_b0 C a1 a2 a3 S h)
/-! StyleRows.isWithin(III)Z -/
set_option maxRecDepth 100000 in
set_option maxHeartbeats 4000000 in
theorem s_X11_isWithin_b15 {X : MC} (C : Cx X cX11_isWithin RX11 wsX11_isWithin 3 rmX11_isWithin (some .boolean)) (w0 : Int32) (S : St) {r0 : Int32 × St} (h : f_X11_isWithin_b15 w0 S = some r0) : G X (QM mkI X r0) S 15 [] [.int w0] := by
  unfold f_X11_isWithin_b15 at h
  exact g_zret (pc := 15) C h dX11_isWithin_15
set_option maxRecDepth 100000 in
set_option maxHeartbeats 4000000 in
theorem s_X11_isWithin_b14 {X : MC} (C : Cx X cX11_isWithin RX11 wsX11_isWithin 3 rmX11_isWithin (some .boolean)) (S : St) {r0 : Int32 × St} (h : f_X11_isWithin_b14 S = some r0) : G X (QM mkI X r0) S 14 [] [] := by
  unfold f_X11_isWithin_b14 at h
  refine g_iconst (pc := 14) (v := 0) C dX11_isWithin_14 (by decide) ?_
  refine g_weak (lv1 := []) [] rfl ?_
  exact s_X11_isWithin_b15 C 0  S h
set_option maxRecDepth 100000 in
set_option maxHeartbeats 4000000 in
theorem s_X11_isWithin_b0 {X : MC} (C : Cx X cX11_isWithin RX11 wsX11_isWithin 3 rmX11_isWithin (some .boolean)) (a1 : Int32) (a2 : Int32) (a3 : Int32) (S : St) {r0 : Int32 × St} (h : f_X11_isWithin_b0 a1 a2 a3 S = some r0) : G X (QM mkI X r0) S 0 [(0, .int a1), (1, .int a2), (2, .int a3)] [] := by
  unfold f_X11_isWithin_b0 at h
  refine g_iload_n (pc := 0) C dX11_isWithin_0 rfl 1 rfl ?_
  refine g_iload_n (pc := 1) C dX11_isWithin_1 rfl 0 rfl ?_
  refine g_icmp_gt (pc := 2) (tgt := 14) C h dX11_isWithin_2 (by decide) (fun h => ?_) (fun h => ?_)
  · refine g_weak (lv1 := []) [] rfl ?_
    exact s_X11_isWithin_b14 C   S h
  · refine g_iload_n (pc := 5) C dX11_isWithin_5 rfl 0 rfl ?_
    refine g_iload_n (pc := 6) C dX11_isWithin_6 rfl 2 rfl ?_
    refine g_icmp_gt (pc := 7) (tgt := 14) C h dX11_isWithin_7 (by decide) (fun h => ?_) (fun h => ?_)
    · refine g_weak (lv1 := []) [] rfl ?_
      exact s_X11_isWithin_b14 C   S h
    · refine g_iconst (pc := 10) (v := 1) C dX11_isWithin_10 (by decide) ?_
      refine g_goto (pc := 11) (tgt := 15) C dX11_isWithin_11 (by decide) ?_
      refine g_weak (lv1 := []) [] rfl ?_
      exact s_X11_isWithin_b15 C 1  S h
theorem c_X11_isWithin (l : Launch) (b : Bw) (a1 : Int32) (a2 : Int32) (a3 : Int32) (S : St) : Ct l b yX11_isWithin wsX11_isWithin rmX11_isWithin [.int a1, .int a2, .int a3] S mkI (f_X11_isWithin a1 a2 a3 S) := Ct.of (by decide +kernel) rfl (Nat.le_of_ble_eq_true rfl) (fun X C hl hb r h => by
  subst hl; subst hb
  exact s_X11_isWithin_b0 C a1 a2 a3 S h)
/-! StyleRows.quotient(JJ)I -/
set_option maxRecDepth 100000 in
set_option maxHeartbeats 4000000 in
theorem s_X11_quotient_b16 {X : MC} (C : Cx X cX11_quotient RX11 wsX11_quotient 4 rmX11_quotient (some .int)) (w0 : Int32) (S : St) {r0 : Int32 × St} (h : f_X11_quotient_b16 w0 S = some r0) : G X (QM mkI X r0) S 16 [] [.int w0] := by
  unfold f_X11_quotient_b16 at h
  exact g_iret (pc := 16) C h dX11_quotient_16
set_option maxRecDepth 100000 in
set_option maxHeartbeats 4000000 in
theorem s_X11_quotient_b0 {X : MC} (C : Cx X cX11_quotient RX11 wsX11_quotient 4 rmX11_quotient (some .int)) (a1 : Int64) (a2 : Int64) (S : St) {r0 : Int32 × St} (h : f_X11_quotient_b0 a1 a2 S = some r0) : G X (QM mkI X r0) S 0 [(0, .long a1), (2, .long a2)] [] := by
  unfold f_X11_quotient_b0 at h
  refine g_lload_n (pc := 0) C dX11_quotient_0 rfl 1 rfl ?_
  refine g_lconst (pc := 1) (v := 0) C dX11_quotient_1 (by decide) ?_
  refine g_lcmp (pc := 2) C dX11_quotient_2 ?_
  refine g_if_gt (pc := 3) (tgt := 10) C h dX11_quotient_3 (by decide) (fun h => ?_) (fun h => ?_)
  · refine g_lload_n (pc := 10) C dX11_quotient_10 rfl 0 rfl ?_
    refine g_lload_n (pc := 11) C dX11_quotient_11 rfl 1 rfl ?_
    refine g_callS (pc := 12) C (c_J9_floorDiv_f86c9 (Xl X) (Xb X) a1 a2 S) gX11_quotient_J9_floorDiv_f86c9 rfl rfl rfl hd_J9_floorDiv_f86c9 ⟨Nat.le_of_ble_eq_true rfl, Nat.le_of_ble_eq_true rfl⟩ rfl rfl (Nat.le_of_ble_eq_true rfl) dX11_quotient_12 h (fun r2 S1 h => ?_)
    change G X _ S1 15 [(0, .long a1), (2, .long a2)] [.long r2]
    refine g_l2i (pc := 15) C dX11_quotient_15 ?_
    refine g_weak (lv1 := []) [] rfl ?_
    exact s_X11_quotient_b16 C (Int64.toInt32 r2)  S1 h
  · refine g_iconst (pc := 6) (v := 0) C dX11_quotient_6 (by decide) ?_
    refine g_goto (pc := 7) (tgt := 16) C dX11_quotient_7 (by decide) ?_
    refine g_weak (lv1 := []) [] rfl ?_
    exact s_X11_quotient_b16 C 0  S h
theorem c_X11_quotient (l : Launch) (b : Bw) (a1 : Int64) (a2 : Int64) (S : St) : Ct l b yX11_quotient wsX11_quotient rmX11_quotient [.long a1, .long a2] S mkI (f_X11_quotient a1 a2 S) := Ct.of (by decide +kernel) rfl (Nat.le_of_ble_eq_true rfl) (fun X C hl hb r h => by
  subst hl; subst hb
  exact s_X11_quotient_b0 C a1 a2 S h)
/-! StyleRows$Arcs.bent(I)I -/
set_option maxRecDepth 100000 in
set_option maxHeartbeats 4000000 in
theorem s_X0_bent_b2 {X : MC} (C : Cx X cX0_bent RX0 wsX0_bent 5 rmX0_bent (some .int)) {rec2 : Int32 × St → Option (Int32 × St)} (v1 : Int32) (v2 : Int32) (hrec2 : ∀ (s : Int32 × St) (r : Int32 × St), rec2 s = some r → G X (QM mkI X r) s.2 2 [(0, .ref (ad X 4)), (1, .int v1), (2, .int (s.1))] []) (S : St) {r0 : Int32 × St} (h : f_X0_bent_b2 rec2 v1 v2 S = some r0) : G X (QM mkI X r0) S 2 [(0, .ref (ad X 4)), (1, .int v1), (2, .int v2)] [] := by
  unfold f_X0_bent_b2 at h
  refine g_iload_n (pc := 2) C dX0_bent_2 rfl 2 rfl ?_
  refine g_aload_n (pc := 3) C dX0_bent_3 rfl 0 rfl ?_
  refine g_get (pc := 4) C 4 (w_4 _ _) rfl 3 (Nat.le_of_ble_eq_true rfl) in_X0_X0_bent k21_X0_bent rfl dX0_bent_4 ?_
  refine g_icmp_ge (pc := 7) (tgt := 90) C h dX0_bent_7 (by decide) (fun h => ?_) (fun h => ?_)
  · refine g_iload_n (pc := 90) C dX0_bent_90 rfl 1 rfl ?_
    exact g_iret (pc := 91) C h dX0_bent_91
  · refine g_iload_n (pc := 10) C dX0_bent_10 rfl 1 rfl ?_
    refine g_aload_n (pc := 11) C dX0_bent_11 rfl 0 rfl ?_
    refine g_get (pc := 12) C 4 (w_4 _ _) rfl 0 (Nat.le_of_ble_eq_true rfl) in_X0_X0_bent k11_X0_bent rfl dX0_bent_12 ?_
    refine g_iload_n (pc := 15) C dX0_bent_15 rfl 2 rfl ?_
    refine g_iald (pc := 16) C 21 (w_21 _ _) h dX0_bent_16 (fun h => ?_)
    refine g_aload_n (pc := 17) C dX0_bent_17 rfl 0 rfl ?_
    refine g_get (pc := 18) C 4 (w_4 _ _) rfl 1 (Nat.le_of_ble_eq_true rfl) in_X0_X0_bent k15_X0_bent rfl dX0_bent_18 ?_
    refine g_iload_n (pc := 21) C dX0_bent_21 rfl 2 rfl ?_
    refine g_iald (pc := 22) C 22 (w_22 _ _) h dX0_bent_22 (fun h => ?_)
    refine g_callSN (pc := 23) C (c_X11_isWithin (Xl X) (Xb X) v1 (rd S 21 v2) (rd S 22 v2) S) gX0_bent_X11_isWithin_n34 rfl rfl rfl nw_X0_34 kiniX11_X0_bent kstX11_isWithin_X0_bent hd_X11_isWithin ⟨Nat.le_of_ble_eq_true rfl, Nat.le_of_ble_eq_true rfl⟩ rfl rfl (Nat.le_of_ble_eq_true rfl) dX0_bent_23 h (fun r2 S1 h => ?_)
    change G X _ S1 26 [(0, .ref (ad X 4)), (1, .int v1), (2, .int v2)] [.int r2]
    refine g_if_eq (pc := 26) (tgt := 84) C h dX0_bent_26 (by decide) (fun h => ?_) (fun h => ?_)
    · refine g_iinc (pc := 84) (v := v2 + 1) C [(2, .int (v2 + 1)), (0, .ref (ad X 4)), (1, .int v1)] dX0_bent_84 2 rfl rfl (Nat.le_of_ble_eq_true rfl) rfl ?_
      refine g_goto (pc := 87) (tgt := 2) C dX0_bent_87 (by decide) ?_
      refine g_weak (lv1 := [(0, .ref (ad X 4)), (1, .int v1), (2, .int (v2 + 1))]) [1, 2, 0] rfl ?_
      exact hrec2 (v2 + 1, S1) _ h
    · refine g_aload_n (pc := 29) C dX0_bent_29 rfl 0 rfl ?_
      refine g_get (pc := 30) C 4 (w_4 _ _) rfl 1 (Nat.le_of_ble_eq_true rfl) in_X0_X0_bent k15_X0_bent rfl dX0_bent_30 ?_
      refine g_iload_n (pc := 33) C dX0_bent_33 rfl 2 rfl ?_
      refine g_iald (pc := 34) C 22 (w_22 _ _) h dX0_bent_34 (fun h => ?_)
      refine g_aload_n (pc := 35) C dX0_bent_35 rfl 0 rfl ?_
      refine g_get (pc := 36) C 4 (w_4 _ _) rfl 0 (Nat.le_of_ble_eq_true rfl) in_X0_X0_bent k11_X0_bent rfl dX0_bent_36 ?_
      refine g_iload_n (pc := 39) C dX0_bent_39 rfl 2 rfl ?_
      refine g_iald (pc := 40) C 21 (w_21 _ _) h dX0_bent_40 (fun h => ?_)
      refine g_isub (pc := 41) C dX0_bent_41 ?_
      refine g_i2l (pc := 42) C dX0_bent_42 ?_
      refine g_letl h (fun y3 h => ?_)
      refine g_lstore_n (pc := 43) C [(3, .long y3), (0, .ref (ad X 4)), (1, .int v1), (2, .int v2)] dX0_bent_43 rfl (Nat.le_of_ble_eq_true rfl) rfl ?_
      refine g_iload_n (pc := 44) C dX0_bent_44 rfl 2 rfl ?_
      refine g_ldc2 (pc := 45) (v := 4) C k38_X0_bent dX0_bent_45 ?_
      refine g_aload_n (pc := 48) C dX0_bent_48 rfl 1 rfl ?_
      refine g_get (pc := 49) C 4 (w_4 _ _) rfl 2 (Nat.le_of_ble_eq_true rfl) in_X0_X0_bent k18_X0_bent rfl dX0_bent_49 ?_
      refine g_iload_n (pc := 52) C dX0_bent_52 rfl 3 rfl ?_
      refine g_iald (pc := 53) C 23 (w_23 _ _) h dX0_bent_53 (fun h => ?_)
      refine g_i2l (pc := 54) C dX0_bent_54 ?_
      refine g_lmul (pc := 55) C dX0_bent_55 ?_
      refine g_iload_n (pc := 56) C dX0_bent_56 rfl 2 rfl ?_
      refine g_aload_n (pc := 57) C dX0_bent_57 rfl 1 rfl ?_
      refine g_get (pc := 58) C 4 (w_4 _ _) rfl 0 (Nat.le_of_ble_eq_true rfl) in_X0_X0_bent k11_X0_bent rfl dX0_bent_58 ?_
      refine g_iload_n (pc := 61) C dX0_bent_61 rfl 3 rfl ?_
      refine g_iald (pc := 62) C 21 (w_21 _ _) h dX0_bent_62 (fun h => ?_)
      refine g_isub (pc := 63) C dX0_bent_63 ?_
      refine g_i2l (pc := 64) C dX0_bent_64 ?_
      refine g_lmul (pc := 65) C dX0_bent_65 ?_
      refine g_aload_n (pc := 66) C dX0_bent_66 rfl 1 rfl ?_
      refine g_get (pc := 67) C 4 (w_4 _ _) rfl 1 (Nat.le_of_ble_eq_true rfl) in_X0_X0_bent k15_X0_bent rfl dX0_bent_67 ?_
      refine g_iload_n (pc := 70) C dX0_bent_70 rfl 3 rfl ?_
      refine g_iald (pc := 71) C 22 (w_22 _ _) h dX0_bent_71 (fun h => ?_)
      refine g_iload_n (pc := 72) C dX0_bent_72 rfl 2 rfl ?_
      refine g_isub (pc := 73) C dX0_bent_73 ?_
      refine g_i2l (pc := 74) C dX0_bent_74 ?_
      refine g_lmul (pc := 75) C dX0_bent_75 ?_
      refine g_lload_n (pc := 76) C dX0_bent_76 rfl 0 rfl ?_
      refine g_lload_n (pc := 77) C dX0_bent_77 rfl 0 rfl ?_
      refine g_lmul (pc := 78) C dX0_bent_78 ?_
      refine g_callSN (pc := 79) C (c_X11_quotient (Xl X) (Xb X) (((4 * (Int32.toInt64 (rd S1 23 v2))) * (Int32.toInt64 (v1 - (rd S1 21 v2)))) * (Int32.toInt64 ((rd S1 22 v2) - v1))) (y3 * y3) S1) gX0_bent_X11_quotient_n40 rfl rfl rfl nw_X0_40 kiniX11_X0_bent kstX11_quotient_X0_bent hd_X11_quotient ⟨Nat.le_of_ble_eq_true rfl, Nat.le_of_ble_eq_true rfl⟩ rfl rfl (Nat.le_of_ble_eq_true rfl) dX0_bent_79 h (fun r5 S4 h => ?_)
      change G X _ S4 82 [(3, .long y3), (0, .ref (ad X 4)), (1, .int v1), (2, .int v2)] [.int r5, .int v1]
      refine g_iadd (pc := 82) C dX0_bent_82 ?_
      exact g_iret (pc := 83) C h dX0_bent_83
set_option maxRecDepth 100000 in
set_option maxHeartbeats 4000000 in
theorem s_X0_bent_l2 {X : MC} (C : Cx X cX0_bent RX0 wsX0_bent 5 rmX0_bent (some .int)) (v1 : Int32) : ∀ (n : Nat) (s : Int32 × St) (r : Int32 × St), f_X0_bent_l2 v1 n s = some r → G X (QM mkI X r) s.2 2 [(0, .ref (ad X 4)), (1, .int v1), (2, .int (s.1))] [] :=
  loop_sound (fun rec2 hrec2 s r h => s_X0_bent_b2 C v1 s.1 hrec2 s.2 h)
set_option maxRecDepth 100000 in
set_option maxHeartbeats 4000000 in
theorem s_X0_bent_b0 {X : MC} (C : Cx X cX0_bent RX0 wsX0_bent 5 rmX0_bent (some .int)) (a1 : Int32) (S : St) {r0 : Int32 × St} (h : f_X0_bent_b0 a1 S = some r0) : G X (QM mkI X r0) S 0 [(0, .ref (ad X 4)), (1, .int a1)] [] := by
  unfold f_X0_bent_b0 at h
  refine g_iconst (pc := 0) (v := 0) C dX0_bent_0 (by decide) ?_
  refine g_istore_n (pc := 1) C [(2, .int 0), (0, .ref (ad X 4)), (1, .int a1)] dX0_bent_1 rfl (Nat.le_of_ble_eq_true rfl) rfl ?_
  refine g_weak (lv1 := [(0, .ref (ad X 4)), (1, .int a1), (2, .int 0)]) [1, 2, 0] rfl ?_
  exact s_X0_bent_l2 C a1 _ (0, S) _ h
theorem c_X0_bent (l : Launch) (b : Bw) (a1 : Int32) (S : St) : Ct l b yX0_bent wsX0_bent rmX0_bent [.ref (bad b 4), .int a1] S mkI (f_X0_bent a1 S) := Ct.of (by decide +kernel) rfl (Nat.le_of_ble_eq_true rfl) (fun X C hl hb r h => by
  subst hl; subst hb
  exact s_X0_bent_b0 C a1 S h)
/-! StyleRows$Arcs.shareWith(II)Z -/
set_option maxRecDepth 100000 in
set_option maxHeartbeats 4000000 in
theorem s_X0_shareWith_b2 {X : MC} (C : Cx X cX0_shareWith RX0 wsX0_shareWith 4 rmX0_shareWith (some .boolean)) {rec2 : Int32 × St → Option (Int32 × St)} (v1 : Int32) (v2 : Int32) (v3 : Int32) (hrec2 : ∀ (s : Int32 × St) (r : Int32 × St), rec2 s = some r → G X (QM mkI X r) s.2 2 [(0, .ref (ad X 4)), (1, .int v1), (2, .int v2), (3, .int (s.1))] []) (S : St) {r0 : Int32 × St} (h : f_X0_shareWith_b2 rec2 v1 v2 v3 S = some r0) : G X (QM mkI X r0) S 2 [(0, .ref (ad X 4)), (1, .int v1), (2, .int v2), (3, .int v3)] [] := by
  unfold f_X0_shareWith_b2 at h
  refine g_iload_n (pc := 2) C dX0_shareWith_2 rfl 3 rfl ?_
  refine g_aload_n (pc := 3) C dX0_shareWith_3 rfl 0 rfl ?_
  refine g_get (pc := 4) C 4 (w_4 _ _) rfl 3 (Nat.le_of_ble_eq_true rfl) in_X0_X0_shareWith k21_X0_shareWith rfl dX0_shareWith_4 ?_
  refine g_icmp_ge (pc := 7) (tgt := 41) C h dX0_shareWith_7 (by decide) (fun h => ?_) (fun h => ?_)
  · refine g_iconst (pc := 41) (v := 0) C dX0_shareWith_41 (by decide) ?_
    exact g_zretc (pc := 42) C rfl h dX0_shareWith_42
  · refine g_aload_n (pc := 10) C dX0_shareWith_10 rfl 0 rfl ?_
    refine g_get (pc := 11) C 4 (w_4 _ _) rfl 0 (Nat.le_of_ble_eq_true rfl) in_X0_X0_shareWith k11_X0_shareWith rfl dX0_shareWith_11 ?_
    refine g_iload_n (pc := 14) C dX0_shareWith_14 rfl 3 rfl ?_
    refine g_iald (pc := 15) C 21 (w_21 _ _) h dX0_shareWith_15 (fun h => ?_)
    refine g_iload_n (pc := 16) C dX0_shareWith_16 rfl 1 rfl ?_
    refine g_mmax (pc := 17) C k25_X0_shareWith kstmax_X0_shareWith kini_X0_shareWith kcomax_X0_shareWith (Nat.le_of_ble_eq_true rfl) (Nat.le_of_ble_eq_true rfl) dX0_shareWith_17 ?_
    refine g_aload_n (pc := 20) C dX0_shareWith_20 rfl 0 rfl ?_
    refine g_get (pc := 21) C 4 (w_4 _ _) rfl 1 (Nat.le_of_ble_eq_true rfl) in_X0_X0_shareWith k15_X0_shareWith rfl dX0_shareWith_21 ?_
    refine g_iload_n (pc := 24) C dX0_shareWith_24 rfl 3 rfl ?_
    refine g_iald (pc := 25) C 22 (w_22 _ _) h dX0_shareWith_25 (fun h => ?_)
    refine g_iload_n (pc := 26) C dX0_shareWith_26 rfl 2 rfl ?_
    refine g_mmin (pc := 27) C k31_X0_shareWith kstmin_X0_shareWith kini_X0_shareWith kcomin_X0_shareWith (Nat.le_of_ble_eq_true rfl) (Nat.le_of_ble_eq_true rfl) dX0_shareWith_27 ?_
    refine g_icmp_ge (pc := 30) (tgt := 35) C h dX0_shareWith_30 (by decide) (fun h => ?_) (fun h => ?_)
    · refine g_iinc (pc := 35) (v := v3 + 1) C [(3, .int (v3 + 1)), (0, .ref (ad X 4)), (1, .int v1), (2, .int v2)] dX0_shareWith_35 3 rfl rfl (Nat.le_of_ble_eq_true rfl) rfl ?_
      refine g_goto (pc := 38) (tgt := 2) C dX0_shareWith_38 (by decide) ?_
      refine g_weak (lv1 := [(0, .ref (ad X 4)), (1, .int v1), (2, .int v2), (3, .int (v3 + 1))]) [1, 2, 3, 0] rfl ?_
      exact hrec2 (v3 + 1, S) _ h
    · refine g_iconst (pc := 33) (v := 1) C dX0_shareWith_33 (by decide) ?_
      exact g_zretc (pc := 34) C rfl h dX0_shareWith_34
set_option maxRecDepth 100000 in
set_option maxHeartbeats 4000000 in
theorem s_X0_shareWith_l2 {X : MC} (C : Cx X cX0_shareWith RX0 wsX0_shareWith 4 rmX0_shareWith (some .boolean)) (v1 : Int32) (v2 : Int32) : ∀ (n : Nat) (s : Int32 × St) (r : Int32 × St), f_X0_shareWith_l2 v1 v2 n s = some r → G X (QM mkI X r) s.2 2 [(0, .ref (ad X 4)), (1, .int v1), (2, .int v2), (3, .int (s.1))] [] :=
  loop_sound (fun rec2 hrec2 s r h => s_X0_shareWith_b2 C v1 v2 s.1 hrec2 s.2 h)
set_option maxRecDepth 100000 in
set_option maxHeartbeats 4000000 in
theorem s_X0_shareWith_b0 {X : MC} (C : Cx X cX0_shareWith RX0 wsX0_shareWith 4 rmX0_shareWith (some .boolean)) (a1 : Int32) (a2 : Int32) (S : St) {r0 : Int32 × St} (h : f_X0_shareWith_b0 a1 a2 S = some r0) : G X (QM mkI X r0) S 0 [(0, .ref (ad X 4)), (1, .int a1), (2, .int a2)] [] := by
  unfold f_X0_shareWith_b0 at h
  refine g_iconst (pc := 0) (v := 0) C dX0_shareWith_0 (by decide) ?_
  refine g_istore_n (pc := 1) C [(3, .int 0), (0, .ref (ad X 4)), (1, .int a1), (2, .int a2)] dX0_shareWith_1 rfl (Nat.le_of_ble_eq_true rfl) rfl ?_
  refine g_weak (lv1 := [(0, .ref (ad X 4)), (1, .int a1), (2, .int a2), (3, .int 0)]) [1, 2, 3, 0] rfl ?_
  exact s_X0_shareWith_l2 C a1 a2 _ (0, S) _ h
theorem c_X0_shareWith (l : Launch) (b : Bw) (a1 : Int32) (a2 : Int32) (S : St) : Ct l b yX0_shareWith wsX0_shareWith rmX0_shareWith [.ref (bad b 4), .int a1, .int a2] S mkI (f_X0_shareWith a1 a2 S) := Ct.of (by decide +kernel) rfl (Nat.le_of_ble_eq_true rfl) (fun X C hl hb r h => by
  subst hl; subst hb
  exact s_X0_shareWith_b0 C a1 a2 S h)
/-! StyleRows$Tape.append(IJ)I -/
set_option maxRecDepth 100000 in
set_option maxHeartbeats 4000000 in
theorem s_X10_append_b21 {X : MC} (C : Cx X cX10_append RX10 wsX10_append 5 rmX10_append (some .int)) {rec21 : Int32 × St → Option (Int32 × St)} (v2 : Int64) (v4 : Int32) (hrec21 : ∀ (s : Int32 × St) (r : Int32 × St), rec21 s = some r → G X (QM mkI X r) s.2 21 [(0, .ref (ad X 5)), (2, .long v2), (4, .int (s.1))] []) (S : St) {r0 : Int32 × St} (h : f_X10_append_b21 rec21 v2 v4 S = some r0) : G X (QM mkI X r0) S 21 [(0, .ref (ad X 5)), (2, .long v2), (4, .int v4)] [] := by
  unfold f_X10_append_b21 at h
  refine g_iload (pc := 21) C dX10_append_21 2 rfl ?_
  refine g_if_lt (pc := 23) (tgt := 60) C h dX10_append_23 (by decide) (fun h => ?_) (fun h => ?_)
  · refine g_aload_n (pc := 60) C dX10_append_60 rfl 0 rfl ?_
    refine g_get (pc := 61) C 5 (w_5 _ _) rfl 1 (Nat.le_of_ble_eq_true rfl) in_X10_X10_append k15_X10_append rfl dX10_append_61 ?_
    exact g_iret (pc := 64) C h dX10_append_64
  · refine g_aload_n (pc := 26) C dX10_append_26 rfl 0 rfl ?_
    refine g_get (pc := 27) C 5 (w_5 _ _) rfl 0 (Nat.le_of_ble_eq_true rfl) in_X10_X10_append k11_X10_append rfl dX10_append_27 ?_
    refine g_aload_n (pc := 30) C dX10_append_30 rfl 0 rfl ?_
    refine g_get (pc := 31) C 5 (w_5 _ _) rfl 1 (Nat.le_of_ble_eq_true rfl) in_X10_X10_append k15_X10_append rfl dX10_append_31 ?_
    refine g_lload_n (pc := 34) C dX10_append_34 rfl 1 rfl ?_
    refine g_bipush (pc := 35) (v := 8) C dX10_append_35 (by decide) ?_
    refine g_iload (pc := 37) C dX10_append_37 2 rfl ?_
    refine g_imul (pc := 39) C dX10_append_39 ?_
    refine g_lushr (pc := 40) C dX10_append_40 ?_
    refine g_l2i (pc := 41) C dX10_append_41 ?_
    refine g_i2b (pc := 42) C dX10_append_42 ?_
    refine g_bast (pc := 43) C 24 (w_24 _ _) (ws_24 _ _) h dX10_append_43 (fun S2 h => ?_)
    refine g_aload_n (pc := 44) C dX10_append_44 rfl 0 rfl ?_
    refine g_dup (pc := 45) C dX10_append_45 rfl ?_
    refine g_get (pc := 46) C 5 (w_5 _ _) rfl 1 (Nat.le_of_ble_eq_true rfl) in_X10_X10_append k15_X10_append rfl dX10_append_46 ?_
    refine g_iconst (pc := 49) (v := 1) C dX10_append_49 (by decide) ?_
    refine g_iadd (pc := 50) C dX10_append_50 ?_
    refine g_put (pc := 51) C 5 (w_5 _ _) rfl 1 (Nat.le_of_ble_eq_true rfl) in_X10_X10_append tyX10_ok nmX10 k15_X10_append rfl rfl rfl (Nat.le_of_ble_eq_true rfl) (ws_5_1 _ _ _) dX10_append_51 h (fun S3 h => ?_)
    refine g_iinc (pc := 54) (v := v4 + (-1)) C [(4, .int (v4 + (-1))), (0, .ref (ad X 5)), (2, .long v2)] dX10_append_54 2 rfl rfl (Nat.le_of_ble_eq_true rfl) rfl ?_
    refine g_goto (pc := 57) (tgt := 21) C dX10_append_57 (by decide) ?_
    refine g_weak (lv1 := [(0, .ref (ad X 5)), (2, .long v2), (4, .int (v4 + (-1)))]) [1, 2, 0] rfl ?_
    exact hrec21 (v4 + (-1), S3) _ h
set_option maxRecDepth 100000 in
set_option maxHeartbeats 4000000 in
theorem s_X10_append_l21 {X : MC} (C : Cx X cX10_append RX10 wsX10_append 5 rmX10_append (some .int)) (v2 : Int64) : ∀ (n : Nat) (s : Int32 × St) (r : Int32 × St), f_X10_append_l21 v2 n s = some r → G X (QM mkI X r) s.2 21 [(0, .ref (ad X 5)), (2, .long v2), (4, .int (s.1))] [] :=
  loop_sound (fun rec21 hrec21 s r h => s_X10_append_b21 C v2 s.1 hrec21 s.2 h)
set_option maxRecDepth 100000 in
set_option maxHeartbeats 4000000 in
theorem s_X10_append_b0 {X : MC} (C : Cx X cX10_append RX10 wsX10_append 5 rmX10_append (some .int)) (a1 : Int32) (a2 : Int64) (S : St) {r0 : Int32 × St} (h : f_X10_append_b0 a1 a2 S = some r0) : G X (QM mkI X r0) S 0 [(0, .ref (ad X 5)), (1, .int a1), (2, .long a2)] [] := by
  unfold f_X10_append_b0 at h
  refine g_iload_n (pc := 0) C dX10_append_0 rfl 1 rfl ?_
  refine g_sipush (pc := 1) (v := 400) C dX10_append_1 (by decide) ?_
  refine g_aload_n (pc := 4) C dX10_append_4 rfl 0 rfl ?_
  refine g_get (pc := 5) C 5 (w_5 _ _) rfl 1 (Nat.le_of_ble_eq_true rfl) in_X10_X10_append k15_X10_append rfl dX10_append_5 ?_
  refine g_isub (pc := 8) C dX10_append_8 ?_
  refine g_icmp_le (pc := 9) (tgt := 16) C h dX10_append_9 (by decide) (fun h => ?_) (fun h => ?_)
  · refine g_iload_n (pc := 16) C dX10_append_16 rfl 1 rfl ?_
    refine g_iconst (pc := 17) (v := 1) C dX10_append_17 (by decide) ?_
    refine g_isub (pc := 18) C dX10_append_18 ?_
    refine g_leti h (fun x1 h => ?_)
    refine g_istore (pc := 19) C [(4, .int x1), (0, .ref (ad X 5)), (1, .int a1), (2, .long a2)] dX10_append_19 (Nat.le_of_ble_eq_true rfl) rfl ?_
    refine g_weak (lv1 := [(0, .ref (ad X 5)), (2, .long a2), (4, .int x1)]) [1, 3, 0] rfl ?_
    exact s_X10_append_l21 C a2 _ (x1, S) _ h
  · refine g_sipush (pc := 12) (v := (-1004)) C dX10_append_12 (by decide) ?_
    exact g_iret (pc := 15) C h dX10_append_15
theorem c_X10_append (l : Launch) (b : Bw) (a1 : Int32) (a2 : Int64) (S : St) : Ct l b yX10_append wsX10_append rmX10_append [.ref (bad b 5), .int a1, .long a2] S mkI (f_X10_append a1 a2 S) := Ct.of (by decide +kernel) rfl (Nat.le_of_ble_eq_true rfl) (fun X C hl hb r h => by
  subst hl; subst hb
  exact s_X10_append_b0 C a1 a2 S h)
/-! StyleRows$Tape.at(I)I -/
set_option maxRecDepth 100000 in
set_option maxHeartbeats 4000000 in
theorem s_X10_at_b27 {X : MC} (C : Cx X cX10_at RX10 wsX10_at 2 rmX10_at (some .int)) (w0 : Int32) (S : St) {r0 : Int32 × St} (h : f_X10_at_b27 w0 S = some r0) : G X (QM mkI X r0) S 27 [] [.int w0] := by
  unfold f_X10_at_b27 at h
  exact g_iret (pc := 27) C h dX10_at_27
set_option maxRecDepth 100000 in
set_option maxHeartbeats 4000000 in
theorem s_X10_at_b26 {X : MC} (C : Cx X cX10_at RX10 wsX10_at 2 rmX10_at (some .int)) (S : St) {r0 : Int32 × St} (h : f_X10_at_b26 S = some r0) : G X (QM mkI X r0) S 26 [] [] := by
  unfold f_X10_at_b26 at h
  refine g_iconst (pc := 26) (v := (-1)) C dX10_at_26 (by decide) ?_
  refine g_weak (lv1 := []) [] rfl ?_
  exact s_X10_at_b27 C (-1)  S h
set_option maxRecDepth 100000 in
set_option maxHeartbeats 4000000 in
theorem s_X10_at_b0 {X : MC} (C : Cx X cX10_at RX10 wsX10_at 2 rmX10_at (some .int)) (a1 : Int32) (S : St) {r0 : Int32 × St} (h : f_X10_at_b0 a1 S = some r0) : G X (QM mkI X r0) S 0 [(0, .ref (ad X 5)), (1, .int a1)] [] := by
  unfold f_X10_at_b0 at h
  refine g_iconst (pc := 0) (v := 0) C dX10_at_0 (by decide) ?_
  refine g_iload_n (pc := 1) C dX10_at_1 rfl 1 rfl ?_
  refine g_icmp_gt (pc := 2) (tgt := 26) C h dX10_at_2 (by decide) (fun h => ?_) (fun h => ?_)
  · refine g_weak (lv1 := []) [] rfl ?_
    exact s_X10_at_b26 C   S h
  · refine g_iload_n (pc := 5) C dX10_at_5 rfl 1 rfl ?_
    refine g_aload_n (pc := 6) C dX10_at_6 rfl 0 rfl ?_
    refine g_get (pc := 7) C 5 (w_5 _ _) rfl 1 (Nat.le_of_ble_eq_true rfl) in_X10_X10_at k15_X10_at rfl dX10_at_7 ?_
    refine g_icmp_ge (pc := 10) (tgt := 26) C h dX10_at_10 (by decide) (fun h => ?_) (fun h => ?_)
    · refine g_weak (lv1 := []) [] rfl ?_
      exact s_X10_at_b26 C   S h
    · refine g_aload_n (pc := 13) C dX10_at_13 rfl 0 rfl ?_
      refine g_get (pc := 14) C 5 (w_5 _ _) rfl 0 (Nat.le_of_ble_eq_true rfl) in_X10_X10_at k11_X10_at rfl dX10_at_14 ?_
      refine g_iload_n (pc := 17) C dX10_at_17 rfl 1 rfl ?_
      refine g_bald (pc := 18) C 24 (w_24 _ _) h dX10_at_18 (fun h => ?_)
      refine g_sipush (pc := 19) (v := 255) C dX10_at_19 (by decide) ?_
      refine g_iand (pc := 22) C dX10_at_22 ?_
      refine g_goto (pc := 23) (tgt := 27) C dX10_at_23 (by decide) ?_
      refine g_weak (lv1 := []) [] rfl ?_
      exact s_X10_at_b27 C ((rd S 24 a1) &&& 255)  S h
theorem c_X10_at (l : Launch) (b : Bw) (a1 : Int32) (S : St) : Ct l b yX10_at wsX10_at rmX10_at [.ref (bad b 5), .int a1] S mkI (f_X10_at a1 S) := Ct.of (by decide +kernel) rfl (Nat.le_of_ble_eq_true rfl) (fun X C hl hb r h => by
  subst hl; subst hb
  exact s_X10_at_b0 C a1 S h)
/-! StyleRows$Tape.clear()V -/
set_option maxRecDepth 100000 in
set_option maxHeartbeats 4000000 in
theorem s_X10_clear_b0 {X : MC} (C : Cx X cX10_clear RX10 wsX10_clear 1 rmX10_clear none) (S : St) {r0 : Unit × St} (h : f_X10_clear_b0 S = some r0) : G X (QM mkV X r0) S 0 [(0, .ref (ad X 5))] [] := by
  unfold f_X10_clear_b0 at h
  refine g_aload_n (pc := 0) C dX10_clear_0 rfl 0 rfl ?_
  refine g_iconst (pc := 1) (v := 0) C dX10_clear_1 (by decide) ?_
  refine g_put (pc := 2) C 5 (w_5 _ _) rfl 1 (Nat.le_of_ble_eq_true rfl) in_X10_X10_clear tyX10_ok nmX10 k15_X10_clear rfl rfl rfl (Nat.le_of_ble_eq_true rfl) (ws_5_1 _ _ _) dX10_clear_2 h (fun S1 h => ?_)
  exact g_vret (pc := 5) C h dX10_clear_5
theorem c_X10_clear (l : Launch) (b : Bw) (S : St) : Ct l b yX10_clear wsX10_clear rmX10_clear [.ref (bad b 5)] S mkV (f_X10_clear S) := Ct.of (by decide +kernel) rfl (Nat.le_of_ble_eq_true rfl) (fun X C hl hb r h => by
  subst hl; subst hb
  exact s_X10_clear_b0 C S h)
/-! StyleRows.isTick(I)Z -/
set_option maxRecDepth 100000 in
set_option maxHeartbeats 4000000 in
theorem s_X11_isTick_b0 {X : MC} (C : Cx X cX11_isTick RX11 wsX11_isTick 1 rmX11_isTick (some .boolean)) (a1 : Int32) (S : St) {r0 : Int32 × St} (h : f_X11_isTick_b0 a1 S = some r0) : G X (QM mkI X r0) S 0 [(0, .int a1)] [] := by
  unfold f_X11_isTick_b0 at h
  refine g_iload_n (pc := 0) C dX11_isTick_0 rfl 0 rfl ?_
  refine g_iconst (pc := 1) (v := 0) C dX11_isTick_1 (by decide) ?_
  refine g_sipush (pc := 2) (v := 20000) C dX11_isTick_2 (by decide) ?_
  refine g_callS (pc := 5) C (c_X11_isWithin (Xl X) (Xb X) a1 0 20000 S) gX11_isTick_X11_isWithin rfl rfl rfl hd_X11_isWithin ⟨Nat.le_of_ble_eq_true rfl, Nat.le_of_ble_eq_true rfl⟩ rfl rfl (Nat.le_of_ble_eq_true rfl) dX11_isTick_5 h (fun r2 S1 h => ?_)
  change G X _ S1 8 [(0, .int a1)] [.int r2]
  exact g_zret (pc := 8) C h dX11_isTick_8
theorem c_X11_isTick (l : Launch) (b : Bw) (a1 : Int32) (S : St) : Ct l b yX11_isTick wsX11_isTick rmX11_isTick [.int a1] S mkI (f_X11_isTick a1 S) := Ct.of (by decide +kernel) rfl (Nat.le_of_ble_eq_true rfl) (fun X C hl hb r h => by
  subst hl; subst hb
  exact s_X11_isTick_b0 C a1 S h)
/-! StyleRows.arc(III)I -/
set_option maxRecDepth 100000 in
set_option maxHeartbeats 4000000 in
theorem s_X11_arc_b32 {X : MC} (C : Cx X cX11_arc RX11 wsX11_arc 4 rmX11_arc (some .int)) (S : St) {r0 : Int32 × St} (h : f_X11_arc_b32 S = some r0) : G X (QM mkI X r0) S 32 [] [] := by
  unfold f_X11_arc_b32 at h
  refine g_sipush (pc := 32) (v := (-1002)) C dX11_arc_32 (by decide) ?_
  exact g_iret (pc := 35) C h dX11_arc_35
set_option maxRecDepth 100000 in
set_option maxHeartbeats 4000000 in
theorem s_X11_arc_b0 {X : MC} (C : Cx X cX11_arc RX11 wsX11_arc 4 rmX11_arc (some .int)) (a1 : Int32) (a2 : Int32) (a3 : Int32) (S : St) {r0 : Int32 × St} (h : f_X11_arc_b0 a1 a2 a3 S = some r0) : G X (QM mkI X r0) S 0 [(0, .ref (ad X 0)), (1, .int a1), (2, .int a2), (3, .int a3)] [] := by
  unfold f_X11_arc_b0 at h
  refine g_iload_n (pc := 0) C dX11_arc_0 rfl 1 rfl ?_
  refine g_callS (pc := 1) C (c_X11_isTick (Xl X) (Xb X) a1 S) gX11_arc_X11_isTick rfl rfl rfl hd_X11_isTick ⟨Nat.le_of_ble_eq_true rfl, Nat.le_of_ble_eq_true rfl⟩ rfl rfl (Nat.le_of_ble_eq_true rfl) dX11_arc_1 h (fun r2 S1 h => ?_)
  change G X _ S1 4 [(0, .ref (ad X 0)), (1, .int a1), (2, .int a2), (3, .int a3)] [.int r2]
  refine g_if_eq (pc := 4) (tgt := 32) C h dX11_arc_4 (by decide) (fun h => ?_) (fun h => ?_)
  · refine g_weak (lv1 := []) [] rfl ?_
    exact s_X11_arc_b32 C   S1 h
  · refine g_iload_n (pc := 7) C dX11_arc_7 rfl 2 rfl ?_
    refine g_callS (pc := 8) C (c_X11_isTick (Xl X) (Xb X) a2 S1) gX11_arc_X11_isTick rfl rfl rfl hd_X11_isTick ⟨Nat.le_of_ble_eq_true rfl, Nat.le_of_ble_eq_true rfl⟩ rfl rfl (Nat.le_of_ble_eq_true rfl) dX11_arc_8 h (fun r4 S3 h => ?_)
    change G X _ S3 11 [(0, .ref (ad X 0)), (1, .int a1), (2, .int a2), (3, .int a3)] [.int r4]
    refine g_if_eq (pc := 11) (tgt := 32) C h dX11_arc_11 (by decide) (fun h => ?_) (fun h => ?_)
    · refine g_weak (lv1 := []) [] rfl ?_
      exact s_X11_arc_b32 C   S3 h
    · refine g_iload_n (pc := 14) C dX11_arc_14 rfl 1 rfl ?_
      refine g_iload_n (pc := 15) C dX11_arc_15 rfl 2 rfl ?_
      refine g_icmp_ge (pc := 16) (tgt := 32) C h dX11_arc_16 (by decide) (fun h => ?_) (fun h => ?_)
      · refine g_weak (lv1 := []) [] rfl ?_
        exact s_X11_arc_b32 C   S3 h
      · refine g_iload_n (pc := 19) C dX11_arc_19 rfl 3 rfl ?_
        refine g_sipush (pc := 20) (v := (-400)) C dX11_arc_20 (by decide) ?_
        refine g_sipush (pc := 23) (v := 400) C dX11_arc_23 (by decide) ?_
        refine g_callS (pc := 26) C (c_X11_isWithin (Xl X) (Xb X) a3 (-400) 400 S3) gX11_arc_X11_isWithin rfl rfl rfl hd_X11_isWithin ⟨Nat.le_of_ble_eq_true rfl, Nat.le_of_ble_eq_true rfl⟩ rfl rfl (Nat.le_of_ble_eq_true rfl) dX11_arc_26 h (fun r6 S5 h => ?_)
        change G X _ S5 29 [(0, .ref (ad X 0)), (1, .int a1), (2, .int a2), (3, .int a3)] [.int r6]
        refine g_if_ne (pc := 29) (tgt := 36) C h dX11_arc_29 (by decide) (fun h => ?_) (fun h => ?_)
        · refine g_aload_n (pc := 36) C dX11_arc_36 rfl 0 rfl ?_
          refine g_get (pc := 37) C 0 (w_0 _ _) rfl 1 (Nat.le_of_ble_eq_true rfl) in_X11_X11_arc k16_X11_arc rfl dX11_arc_37 ?_
          refine g_getN (pc := 40) C 1 (w_1 _ _) rfl 2 (Nat.le_of_ble_eq_true rfl) in_X9_X11_arc nw_X11_104 rfl dX11_arc_40 ?_
          refine g_iload_n (pc := 43) C dX11_arc_43 rfl 1 rfl ?_
          refine g_iload_n (pc := 44) C dX11_arc_44 rfl 2 rfl ?_
          refine g_callV (pc := 45) C 4 (c_X0_shareWith (Xl X) (Xb X) a1 a2 S5) gX11_arc_X0_shareWith rfl rfl rfl hd_X0_shareWith ⟨Nat.le_of_ble_eq_true rfl, Nat.le_of_ble_eq_true rfl⟩ (w_4 _ _) rfl rfl rfl (Nat.le_of_ble_eq_true rfl) dX11_arc_45 h (fun r8 S7 h => ?_)
          change G X _ S7 48 [(0, .ref (ad X 0)), (1, .int a1), (2, .int a2), (3, .int a3)] [.int r8]
          refine g_if_eq (pc := 48) (tgt := 55) C h dX11_arc_48 (by decide) (fun h => ?_) (fun h => ?_)
          · refine g_aload_n (pc := 55) C dX11_arc_55 rfl 0 rfl ?_
            refine g_get (pc := 56) C 0 (w_0 _ _) rfl 1 (Nat.le_of_ble_eq_true rfl) in_X11_X11_arc k16_X11_arc rfl dX11_arc_56 ?_
            refine g_getN (pc := 59) C 1 (w_1 _ _) rfl 2 (Nat.le_of_ble_eq_true rfl) in_X9_X11_arc nw_X11_104 rfl dX11_arc_59 ?_
            refine g_iload_n (pc := 62) C dX11_arc_62 rfl 1 rfl ?_
            refine g_iload_n (pc := 63) C dX11_arc_63 rfl 2 rfl ?_
            refine g_iload_n (pc := 64) C dX11_arc_64 rfl 3 rfl ?_
            refine g_callV (pc := 65) C 4 (c_X0_add (Xl X) (Xb X) a1 a2 a3 S7) gX11_arc_X0_add rfl rfl rfl hd_X0_add ⟨Nat.le_of_ble_eq_true rfl, Nat.le_of_ble_eq_true rfl⟩ (w_4 _ _) rfl rfl rfl (Nat.le_of_ble_eq_true rfl) dX11_arc_65 h (fun r10 S9 h => ?_)
            change G X _ S9 68 [(0, .ref (ad X 0)), (1, .int a1), (2, .int a2), (3, .int a3)] [.int r10]
            exact g_iret (pc := 68) C h dX11_arc_68
          · refine g_sipush (pc := 51) (v := (-1003)) C dX11_arc_51 (by decide) ?_
            exact g_iret (pc := 54) C h dX11_arc_54
        · refine g_weak (lv1 := []) [] rfl ?_
          exact s_X11_arc_b32 C   S5 h
theorem c_X11_arc (l : Launch) (b : Bw) (a1 : Int32) (a2 : Int32) (a3 : Int32) (S : St) : Ct l b yX11_arc wsX11_arc rmX11_arc [.ref (bad b 0), .int a1, .int a2, .int a3] S mkI (f_X11_arc a1 a2 a3 S) := Ct.of (by decide +kernel) rfl (Nat.le_of_ble_eq_true rfl) (fun X C hl hb r h => by
  subst hl; subst hb
  exact s_X11_arc_b0 C a1 a2 a3 S h)
/-! StyleRows.count(I)I -/
set_option maxRecDepth 100000 in
set_option maxHeartbeats 4000000 in
theorem s_X11_count_b0 {X : MC} (C : Cx X cX11_count RX11 wsX11_count 2 rmX11_count (some .int)) (a1 : Int32) (S : St) {r0 : Int32 × St} (h : f_X11_count_b0 a1 S = some r0) : G X (QM mkI X r0) S 0 [(0, .ref (ad X 0)), (1, .int a1)] [] := by
  unfold f_X11_count_b0 at h
  refine g_iload_n (pc := 0) C dX11_count_0 rfl 1 rfl ?_
  by_cases hq1 : a1 = 0
  · replace h := ite_t h hq1
    refine g_swIn (pc := 1) (tgt := 40) C 0 hq1 dX11_count_1 (by decide) (by decide) rfl (by decide) ?_
    refine g_aload_n (pc := 40) C dX11_count_40 rfl 0 rfl ?_
    refine g_get (pc := 41) C 0 (w_0 _ _) rfl 1 (Nat.le_of_ble_eq_true rfl) in_X11_X11_count k16_X11_count rfl dX11_count_41 ?_
    refine g_getN (pc := 44) C 1 (w_1 _ _) rfl 0 (Nat.le_of_ble_eq_true rfl) in_X9_X11_count nw_X11_72 rfl dX11_count_44 ?_
    refine g_getN (pc := 47) C 2 (w_2 _ _) rfl 5 (Nat.le_of_ble_eq_true rfl) in_X4_X11_count nw_X11_195 rfl dX11_count_47 ?_
    exact g_iret (pc := 50) C h dX11_count_50
  replace h := ite_f h hq1
  by_cases hq2 : a1 = 1
  · replace h := ite_t h hq2
    refine g_swIn (pc := 1) (tgt := 51) C 1 hq2 dX11_count_1 (by decide) (by decide) rfl (by decide) ?_
    refine g_aload_n (pc := 51) C dX11_count_51 rfl 0 rfl ?_
    refine g_get (pc := 52) C 0 (w_0 _ _) rfl 1 (Nat.le_of_ble_eq_true rfl) in_X11_X11_count k16_X11_count rfl dX11_count_52 ?_
    refine g_getN (pc := 55) C 1 (w_1 _ _) rfl 1 (Nat.le_of_ble_eq_true rfl) in_X9_X11_count nw_X11_90 rfl dX11_count_55 ?_
    refine g_getN (pc := 58) C 3 (w_3 _ _) rfl 3 (Nat.le_of_ble_eq_true rfl) in_X2_X11_count nw_X11_196 rfl dX11_count_58 ?_
    exact g_iret (pc := 61) C h dX11_count_61
  replace h := ite_f h hq2
  by_cases hq3 : a1 = 2
  · replace h := ite_t h hq3
    refine g_swIn (pc := 1) (tgt := 62) C 2 hq3 dX11_count_1 (by decide) (by decide) rfl (by decide) ?_
    refine g_aload_n (pc := 62) C dX11_count_62 rfl 0 rfl ?_
    refine g_get (pc := 63) C 0 (w_0 _ _) rfl 1 (Nat.le_of_ble_eq_true rfl) in_X11_X11_count k16_X11_count rfl dX11_count_63 ?_
    refine g_getN (pc := 66) C 1 (w_1 _ _) rfl 2 (Nat.le_of_ble_eq_true rfl) in_X9_X11_count nw_X11_104 rfl dX11_count_66 ?_
    refine g_getN (pc := 69) C 4 (w_4 _ _) rfl 3 (Nat.le_of_ble_eq_true rfl) in_X0_X11_count nw_X11_197 rfl dX11_count_69 ?_
    exact g_iret (pc := 72) C h dX11_count_72
  replace h := ite_f h hq3
  by_cases hq4 : a1 = 3
  · replace h := ite_t h hq4
    refine g_swIn (pc := 1) (tgt := 73) C 3 hq4 dX11_count_1 (by decide) (by decide) rfl (by decide) ?_
    refine g_aload_n (pc := 73) C dX11_count_73 rfl 0 rfl ?_
    refine g_get (pc := 74) C 0 (w_0 _ _) rfl 3 (Nat.le_of_ble_eq_true rfl) in_X11_X11_count k30_X11_count rfl dX11_count_74 ?_
    refine g_getN (pc := 77) C 6 (w_6 _ _) rfl 2 (Nat.le_of_ble_eq_true rfl) in_X8_X11_count nw_X11_198 rfl dX11_count_77 ?_
    exact g_iret (pc := 80) C h dX11_count_80
  replace h := ite_f h hq4
  by_cases hq5 : a1 = 4
  · replace h := ite_t h hq5
    refine g_swIn (pc := 1) (tgt := 81) C 4 hq5 dX11_count_1 (by decide) (by decide) rfl (by decide) ?_
    refine g_aload_n (pc := 81) C dX11_count_81 rfl 0 rfl ?_
    refine g_get (pc := 82) C 0 (w_0 _ _) rfl 7 (Nat.le_of_ble_eq_true rfl) in_X11_X11_count k58_X11_count rfl dX11_count_82 ?_
    refine g_getN (pc := 85) C 11 (w_11 _ _) rfl 1 (Nat.le_of_ble_eq_true rfl) in_X1_X11_count nw_X11_177 rfl dX11_count_85 ?_
    exact g_iret (pc := 88) C h dX11_count_88
  replace h := ite_f h hq5
  by_cases hq6 : a1 = 5
  · replace h := ite_t h hq6
    refine g_swIn (pc := 1) (tgt := 89) C 5 hq6 dX11_count_1 (by decide) (by decide) rfl (by decide) ?_
    refine g_aload_n (pc := 89) C dX11_count_89 rfl 0 rfl ?_
    refine g_get (pc := 90) C 0 (w_0 _ _) rfl 2 (Nat.le_of_ble_eq_true rfl) in_X11_X11_count k23_X11_count rfl dX11_count_90 ?_
    refine g_getN (pc := 93) C 5 (w_5 _ _) rfl 1 (Nat.le_of_ble_eq_true rfl) in_X10_X11_count nw_X11_199 rfl dX11_count_93 ?_
    exact g_iret (pc := 96) C h dX11_count_96
  replace h := ite_f h hq6
  refine g_swOut (pc := 1) (tgt := 97) C (sw_out_5 hq1 hq2 hq3 hq4 hq5 hq6) dX11_count_1 (by decide) ?_
  refine g_sipush (pc := 97) (v := (-1001)) C dX11_count_97 (by decide) ?_
  exact g_iret (pc := 100) C h dX11_count_100
theorem c_X11_count (l : Launch) (b : Bw) (a1 : Int32) (S : St) : Ct l b yX11_count wsX11_count rmX11_count [.ref (bad b 0), .int a1] S mkI (f_X11_count a1 S) := Ct.of (by decide +kernel) rfl (Nat.le_of_ble_eq_true rfl) (fun X C hl hb r h => by
  subst hl; subst hb
  exact s_X11_count_b0 C a1 S h)
/-! StyleRows$Events.has(I)Z -/
set_option maxRecDepth 100000 in
set_option maxHeartbeats 4000000 in
theorem s_X1_has_b0 {X : MC} (C : Cx X cX1_has RX1 wsX1_has 2 rmX1_has (some .boolean)) (a1 : Int32) (S : St) {r0 : Int32 × St} (h : f_X1_has_b0 a1 S = some r0) : G X (QM mkI X r0) S 0 [(0, .ref (ad X 11)), (1, .int a1)] [] := by
  unfold f_X1_has_b0 at h
  refine g_iload_n (pc := 0) C dX1_has_0 rfl 1 rfl ?_
  refine g_iconst (pc := 1) (v := 0) C dX1_has_1 (by decide) ?_
  refine g_aload_n (pc := 2) C dX1_has_2 rfl 0 rfl ?_
  refine g_get (pc := 3) C 11 (w_11 _ _) rfl 1 (Nat.le_of_ble_eq_true rfl) in_X1_X1_has k16_X1_has rfl dX1_has_3 ?_
  refine g_iconst (pc := 6) (v := 1) C dX1_has_6 (by decide) ?_
  refine g_isub (pc := 7) C dX1_has_7 ?_
  refine g_callSN (pc := 8) C (c_X11_isWithin (Xl X) (Xb X) a1 0 ((gI S 21) - 1) S) gX1_has_X11_isWithin_n24 rfl rfl rfl nw_X1_24 kiniX11_X1_has kstX11_isWithin_X1_has hd_X11_isWithin ⟨Nat.le_of_ble_eq_true rfl, Nat.le_of_ble_eq_true rfl⟩ rfl rfl (Nat.le_of_ble_eq_true rfl) dX1_has_8 h (fun r2 S1 h => ?_)
  change G X _ S1 11 [(0, .ref (ad X 11)), (1, .int a1)] [.int r2]
  exact g_zret (pc := 11) C h dX1_has_11
theorem c_X1_has (l : Launch) (b : Bw) (a1 : Int32) (S : St) : Ct l b yX1_has wsX1_has rmX1_has [.ref (bad b 11), .int a1] S mkI (f_X1_has a1 S) := Ct.of (by decide +kernel) rfl (Nat.le_of_ble_eq_true rfl) (fun X C hl hb r h => by
  subst hl; subst hb
  exact s_X1_has_b0 C a1 S h)
/-! StyleRows.event(II)I -/
set_option maxRecDepth 100000 in
set_option maxHeartbeats 4000000 in
theorem s_X11_event_b38 {X : MC} (C : Cx X cX11_event RX11 wsX11_event 3 rmX11_event (some .int)) (w0 : Int32) (S : St) {r0 : Int32 × St} (h : f_X11_event_b38 w0 S = some r0) : G X (QM mkI X r0) S 38 [] [.int w0] := by
  unfold f_X11_event_b38 at h
  exact g_iret (pc := 38) C h dX11_event_38
set_option maxRecDepth 100000 in
set_option maxHeartbeats 4000000 in
theorem s_X11_event_b35 {X : MC} (C : Cx X cX11_event RX11 wsX11_event 3 rmX11_event (some .int)) (S : St) {r0 : Int32 × St} (h : f_X11_event_b35 S = some r0) : G X (QM mkI X r0) S 35 [] [] := by
  unfold f_X11_event_b35 at h
  refine g_sipush (pc := 35) (v := (-1001)) C dX11_event_35 (by decide) ?_
  refine g_weak (lv1 := []) [] rfl ?_
  exact s_X11_event_b38 C (-1001)  S h
set_option maxRecDepth 100000 in
set_option maxHeartbeats 4000000 in
theorem s_X11_event_b0 {X : MC} (C : Cx X cX11_event RX11 wsX11_event 3 rmX11_event (some .int)) (a1 : Int32) (a2 : Int32) (S : St) {r0 : Int32 × St} (h : f_X11_event_b0 a1 a2 S = some r0) : G X (QM mkI X r0) S 0 [(0, .ref (ad X 0)), (1, .int a1), (2, .int a2)] [] := by
  unfold f_X11_event_b0 at h
  refine g_aload_n (pc := 0) C dX11_event_0 rfl 0 rfl ?_
  refine g_get (pc := 1) C 0 (w_0 _ _) rfl 7 (Nat.le_of_ble_eq_true rfl) in_X11_X11_event k58_X11_event rfl dX11_event_1 ?_
  refine g_iload_n (pc := 4) C dX11_event_4 rfl 1 rfl ?_
  refine g_callV (pc := 5) C 11 (c_X1_has (Xl X) (Xb X) a1 S) gX11_event_X1_has rfl rfl rfl hd_X1_has ⟨Nat.le_of_ble_eq_true rfl, Nat.le_of_ble_eq_true rfl⟩ (w_11 _ _) rfl rfl rfl (Nat.le_of_ble_eq_true rfl) dX11_event_5 h (fun r2 S1 h => ?_)
  change G X _ S1 8 [(0, .ref (ad X 0)), (1, .int a1), (2, .int a2)] [.int r2]
  refine g_if_eq (pc := 8) (tgt := 35) C h dX11_event_8 (by decide) (fun h => ?_) (fun h => ?_)
  · refine g_weak (lv1 := []) [] rfl ?_
    exact s_X11_event_b35 C   S1 h
  · refine g_iload_n (pc := 11) C dX11_event_11 rfl 2 rfl ?_
    refine g_iconst (pc := 12) (v := 0) C dX11_event_12 (by decide) ?_
    refine g_bipush (pc := 13) (v := 6) C dX11_event_13 (by decide) ?_
    refine g_callS (pc := 15) C (c_X11_isWithin (Xl X) (Xb X) a2 0 6 S1) gX11_event_X11_isWithin rfl rfl rfl hd_X11_isWithin ⟨Nat.le_of_ble_eq_true rfl, Nat.le_of_ble_eq_true rfl⟩ rfl rfl (Nat.le_of_ble_eq_true rfl) dX11_event_15 h (fun r4 S3 h => ?_)
    change G X _ S3 18 [(0, .ref (ad X 0)), (1, .int a1), (2, .int a2)] [.int r4]
    refine g_if_eq (pc := 18) (tgt := 35) C h dX11_event_18 (by decide) (fun h => ?_) (fun h => ?_)
    · refine g_weak (lv1 := []) [] rfl ?_
      exact s_X11_event_b35 C   S3 h
    · refine g_aload_n (pc := 21) C dX11_event_21 rfl 0 rfl ?_
      refine g_get (pc := 22) C 0 (w_0 _ _) rfl 7 (Nat.le_of_ble_eq_true rfl) in_X11_X11_event k58_X11_event rfl dX11_event_22 ?_
      refine g_getN (pc := 25) C 11 (w_11 _ _) rfl 0 (Nat.le_of_ble_eq_true rfl) in_X1_X11_event nw_X11_182 rfl dX11_event_25 ?_
      refine g_iload_n (pc := 28) C dX11_event_28 rfl 2 rfl ?_
      refine g_aald (pc := 29) C 41 _ (w_41 _ _) rfl h dX11_event_29 (fun hn5 h => ?_)
      refine g_iload_n (pc := 30) C dX11_event_30 rfl 1 rfl ?_
      refine g_iald (pc := 31) C _ (wg_41 _ _ _ hn5) h dX11_event_31 (fun h => ?_)
      refine g_goto (pc := 32) (tgt := 38) C dX11_event_32 (by decide) ?_
      refine g_weak (lv1 := []) [] rfl ?_
      exact s_X11_event_b38 C (rd S3 (42 + Int32.toNatClampNeg a2) a1)  S3 h
theorem c_X11_event (l : Launch) (b : Bw) (a1 : Int32) (a2 : Int32) (S : St) : Ct l b yX11_event wsX11_event rmX11_event [.ref (bad b 0), .int a1, .int a2] S mkI (f_X11_event a1 a2 S) := Ct.of (by decide +kernel) rfl (Nat.le_of_ble_eq_true rfl) (fun X C hl hb r h => by
  subst hl; subst hb
  exact s_X11_event_b0 C a1 a2 S h)
/-! StyleRows.feed(IJ)I -/
set_option maxRecDepth 100000 in
set_option maxHeartbeats 4000000 in
theorem s_X11_feed_b25 {X : MC} (C : Cx X cX11_feed RX11 wsX11_feed 4 rmX11_feed (some .int)) (w0 : Int32) (S : St) {r0 : Int32 × St} (h : f_X11_feed_b25 w0 S = some r0) : G X (QM mkI X r0) S 25 [] [.int w0] := by
  unfold f_X11_feed_b25 at h
  exact g_iret (pc := 25) C h dX11_feed_25
set_option maxRecDepth 100000 in
set_option maxHeartbeats 4000000 in
theorem s_X11_feed_b0 {X : MC} (C : Cx X cX11_feed RX11 wsX11_feed 4 rmX11_feed (some .int)) (a1 : Int32) (a2 : Int64) (S : St) {r0 : Int32 × St} (h : f_X11_feed_b0 a1 a2 S = some r0) : G X (QM mkI X r0) S 0 [(0, .ref (ad X 0)), (1, .int a1), (2, .long a2)] [] := by
  unfold f_X11_feed_b0 at h
  refine g_iload_n (pc := 0) C dX11_feed_0 rfl 1 rfl ?_
  refine g_iconst (pc := 1) (v := 1) C dX11_feed_1 (by decide) ?_
  refine g_bipush (pc := 2) (v := 8) C dX11_feed_2 (by decide) ?_
  refine g_callS (pc := 4) C (c_X11_isWithin (Xl X) (Xb X) a1 1 8 S) gX11_feed_X11_isWithin rfl rfl rfl hd_X11_isWithin ⟨Nat.le_of_ble_eq_true rfl, Nat.le_of_ble_eq_true rfl⟩ rfl rfl (Nat.le_of_ble_eq_true rfl) dX11_feed_4 h (fun r2 S1 h => ?_)
  change G X _ S1 7 [(0, .ref (ad X 0)), (1, .int a1), (2, .long a2)] [.int r2]
  refine g_if_eq (pc := 7) (tgt := 22) C h dX11_feed_7 (by decide) (fun h => ?_) (fun h => ?_)
  · refine g_sipush (pc := 22) (v := (-1002)) C dX11_feed_22 (by decide) ?_
    refine g_weak (lv1 := []) [] rfl ?_
    exact s_X11_feed_b25 C (-1002)  S1 h
  · refine g_aload_n (pc := 10) C dX11_feed_10 rfl 0 rfl ?_
    refine g_get (pc := 11) C 0 (w_0 _ _) rfl 2 (Nat.le_of_ble_eq_true rfl) in_X11_X11_feed k23_X11_feed rfl dX11_feed_11 ?_
    refine g_iload_n (pc := 14) C dX11_feed_14 rfl 1 rfl ?_
    refine g_lload_n (pc := 15) C dX11_feed_15 rfl 2 rfl ?_
    refine g_callV (pc := 16) C 5 (c_X10_append (Xl X) (Xb X) a1 a2 S1) gX11_feed_X10_append rfl rfl rfl hd_X10_append ⟨Nat.le_of_ble_eq_true rfl, Nat.le_of_ble_eq_true rfl⟩ (w_5 _ _) rfl rfl rfl (Nat.le_of_ble_eq_true rfl) dX11_feed_16 h (fun r4 S3 h => ?_)
    change G X _ S3 19 [(0, .ref (ad X 0)), (1, .int a1), (2, .long a2)] [.int r4]
    refine g_goto (pc := 19) (tgt := 25) C dX11_feed_19 (by decide) ?_
    refine g_weak (lv1 := []) [] rfl ?_
    exact s_X11_feed_b25 C r4  S3 h
theorem c_X11_feed (l : Launch) (b : Bw) (a1 : Int32) (a2 : Int64) (S : St) : Ct l b yX11_feed wsX11_feed rmX11_feed [.ref (bad b 0), .int a1, .long a2] S mkI (f_X11_feed a1 a2 S) := Ct.of (by decide +kernel) rfl (Nat.le_of_ble_eq_true rfl) (fun X C hl hb r h => by
  subst hl; subst hb
  exact s_X11_feed_b0 C a1 a2 S h)
/-! StyleRows.isVoice(I)Z -/
set_option maxRecDepth 100000 in
set_option maxHeartbeats 4000000 in
theorem s_X11_isVoice_b0 {X : MC} (C : Cx X cX11_isVoice RX11 wsX11_isVoice 1 rmX11_isVoice (some .boolean)) (a1 : Int32) (S : St) {r0 : Int32 × St} (h : f_X11_isVoice_b0 a1 S = some r0) : G X (QM mkI X r0) S 0 [(0, .int a1)] [] := by
  unfold f_X11_isVoice_b0 at h
  refine g_iload_n (pc := 0) C dX11_isVoice_0 rfl 0 rfl ?_
  refine g_iconst (pc := 1) (v := 0) C dX11_isVoice_1 (by decide) ?_
  refine g_iconst (pc := 2) (v := 3) C dX11_isVoice_2 (by decide) ?_
  refine g_callS (pc := 3) C (c_X11_isWithin (Xl X) (Xb X) a1 0 3 S) gX11_isVoice_X11_isWithin rfl rfl rfl hd_X11_isWithin ⟨Nat.le_of_ble_eq_true rfl, Nat.le_of_ble_eq_true rfl⟩ rfl rfl (Nat.le_of_ble_eq_true rfl) dX11_isVoice_3 h (fun r2 S1 h => ?_)
  change G X _ S1 6 [(0, .int a1)] [.int r2]
  exact g_zret (pc := 6) C h dX11_isVoice_6
theorem c_X11_isVoice (l : Launch) (b : Bw) (a1 : Int32) (S : St) : Ct l b yX11_isVoice wsX11_isVoice rmX11_isVoice [.int a1] S mkI (f_X11_isVoice a1 S) := Ct.of (by decide +kernel) rfl (Nat.le_of_ble_eq_true rfl) (fun X C hl hb r h => by
  subst hl; subst hb
  exact s_X11_isVoice_b0 C a1 S h)
/-! StyleRows$Levels.moveUpFrom(I)V -/
set_option maxRecDepth 100000 in
set_option maxHeartbeats 4000000 in
theorem s_X2_moveUpFrom_b5 {X : MC} (C : Cx X cX2_moveUpFrom RX2 wsX2_moveUpFrom 3 rmX2_moveUpFrom none) {rec5 : Int32 × St → Option (Unit × St)} (v1 : Int32) (v2 : Int32) (hrec5 : ∀ (s : Int32 × St) (r : Unit × St), rec5 s = some r → G X (QM mkV X r) s.2 5 [(0, .ref (ad X 3)), (1, .int v1), (2, .int (s.1))] []) (S : St) {r0 : Unit × St} (h : f_X2_moveUpFrom_b5 rec5 v1 v2 S = some r0) : G X (QM mkV X r0) S 5 [(0, .ref (ad X 3)), (1, .int v1), (2, .int v2)] [] := by
  unfold f_X2_moveUpFrom_b5 at h
  refine g_iload_n (pc := 5) C dX2_moveUpFrom_5 rfl 2 rfl ?_
  refine g_iload_n (pc := 6) C dX2_moveUpFrom_6 rfl 1 rfl ?_
  refine g_icmp_le (pc := 7) (tgt := 58) C h dX2_moveUpFrom_7 (by decide) (fun h => ?_) (fun h => ?_)
  · refine g_aload_n (pc := 58) C dX2_moveUpFrom_58 rfl 0 rfl ?_
    refine g_dup (pc := 59) C dX2_moveUpFrom_59 rfl ?_
    refine g_get (pc := 60) C 3 (w_3 _ _) rfl 3 (Nat.le_of_ble_eq_true rfl) in_X2_X2_moveUpFrom k22_X2_moveUpFrom rfl dX2_moveUpFrom_60 ?_
    refine g_iconst (pc := 63) (v := 1) C dX2_moveUpFrom_63 (by decide) ?_
    refine g_iadd (pc := 64) C dX2_moveUpFrom_64 ?_
    refine g_put (pc := 65) C 3 (w_3 _ _) rfl 3 (Nat.le_of_ble_eq_true rfl) in_X2_X2_moveUpFrom tyX2_ok nmX2 k22_X2_moveUpFrom rfl rfl rfl (Nat.le_of_ble_eq_true rfl) (ws_3_3 _ _ _) dX2_moveUpFrom_65 h (fun S2 h => ?_)
    exact g_vret (pc := 68) C h dX2_moveUpFrom_68
  · refine g_aload_n (pc := 10) C dX2_moveUpFrom_10 rfl 0 rfl ?_
    refine g_get (pc := 11) C 3 (w_3 _ _) rfl 0 (Nat.le_of_ble_eq_true rfl) in_X2_X2_moveUpFrom k11_X2_moveUpFrom rfl dX2_moveUpFrom_11 ?_
    refine g_iload_n (pc := 14) C dX2_moveUpFrom_14 rfl 2 rfl ?_
    refine g_aload_n (pc := 15) C dX2_moveUpFrom_15 rfl 0 rfl ?_
    refine g_get (pc := 16) C 3 (w_3 _ _) rfl 0 (Nat.le_of_ble_eq_true rfl) in_X2_X2_moveUpFrom k11_X2_moveUpFrom rfl dX2_moveUpFrom_16 ?_
    refine g_iload_n (pc := 19) C dX2_moveUpFrom_19 rfl 2 rfl ?_
    refine g_iconst (pc := 20) (v := 1) C dX2_moveUpFrom_20 (by decide) ?_
    refine g_isub (pc := 21) C dX2_moveUpFrom_21 ?_
    refine g_iald (pc := 22) C 18 (w_18 _ _) h dX2_moveUpFrom_22 (fun h => ?_)
    refine g_iast (pc := 23) C 18 (w_18 _ _) (ws_18 _ _) h dX2_moveUpFrom_23 (fun S3 h => ?_)
    refine g_aload_n (pc := 24) C dX2_moveUpFrom_24 rfl 0 rfl ?_
    refine g_get (pc := 25) C 3 (w_3 _ _) rfl 1 (Nat.le_of_ble_eq_true rfl) in_X2_X2_moveUpFrom k15_X2_moveUpFrom rfl dX2_moveUpFrom_25 ?_
    refine g_iload_n (pc := 28) C dX2_moveUpFrom_28 rfl 2 rfl ?_
    refine g_aload_n (pc := 29) C dX2_moveUpFrom_29 rfl 0 rfl ?_
    refine g_get (pc := 30) C 3 (w_3 _ _) rfl 1 (Nat.le_of_ble_eq_true rfl) in_X2_X2_moveUpFrom k15_X2_moveUpFrom rfl dX2_moveUpFrom_30 ?_
    refine g_iload_n (pc := 33) C dX2_moveUpFrom_33 rfl 2 rfl ?_
    refine g_iconst (pc := 34) (v := 1) C dX2_moveUpFrom_34 (by decide) ?_
    refine g_isub (pc := 35) C dX2_moveUpFrom_35 ?_
    refine g_iald (pc := 36) C 19 (w_19 _ _) h dX2_moveUpFrom_36 (fun h => ?_)
    refine g_iast (pc := 37) C 19 (w_19 _ _) (ws_19 _ _) h dX2_moveUpFrom_37 (fun S4 h => ?_)
    refine g_aload_n (pc := 38) C dX2_moveUpFrom_38 rfl 0 rfl ?_
    refine g_get (pc := 39) C 3 (w_3 _ _) rfl 2 (Nat.le_of_ble_eq_true rfl) in_X2_X2_moveUpFrom k18_X2_moveUpFrom rfl dX2_moveUpFrom_39 ?_
    refine g_iload_n (pc := 42) C dX2_moveUpFrom_42 rfl 2 rfl ?_
    refine g_aload_n (pc := 43) C dX2_moveUpFrom_43 rfl 0 rfl ?_
    refine g_get (pc := 44) C 3 (w_3 _ _) rfl 2 (Nat.le_of_ble_eq_true rfl) in_X2_X2_moveUpFrom k18_X2_moveUpFrom rfl dX2_moveUpFrom_44 ?_
    refine g_iload_n (pc := 47) C dX2_moveUpFrom_47 rfl 2 rfl ?_
    refine g_iconst (pc := 48) (v := 1) C dX2_moveUpFrom_48 (by decide) ?_
    refine g_isub (pc := 49) C dX2_moveUpFrom_49 ?_
    refine g_zald (pc := 50) C 20 (w_20 _ _) h dX2_moveUpFrom_50 (fun h => ?_)
    refine g_zast (pc := 51) C 20 (w_20 _ _) (ws_20 _ _) h dX2_moveUpFrom_51 (fun S5 h => ?_)
    refine g_iinc (pc := 52) (v := v2 + (-1)) C [(2, .int (v2 + (-1))), (0, .ref (ad X 3)), (1, .int v1)] dX2_moveUpFrom_52 2 rfl rfl (Nat.le_of_ble_eq_true rfl) rfl ?_
    refine g_goto (pc := 55) (tgt := 5) C dX2_moveUpFrom_55 (by decide) ?_
    refine g_weak (lv1 := [(0, .ref (ad X 3)), (1, .int v1), (2, .int (v2 + (-1)))]) [1, 2, 0] rfl ?_
    exact hrec5 (v2 + (-1), S5) _ h
set_option maxRecDepth 100000 in
set_option maxHeartbeats 4000000 in
theorem s_X2_moveUpFrom_l5 {X : MC} (C : Cx X cX2_moveUpFrom RX2 wsX2_moveUpFrom 3 rmX2_moveUpFrom none) (v1 : Int32) : ∀ (n : Nat) (s : Int32 × St) (r : Unit × St), f_X2_moveUpFrom_l5 v1 n s = some r → G X (QM mkV X r) s.2 5 [(0, .ref (ad X 3)), (1, .int v1), (2, .int (s.1))] [] :=
  loop_sound (fun rec5 hrec5 s r h => s_X2_moveUpFrom_b5 C v1 s.1 hrec5 s.2 h)
set_option maxRecDepth 100000 in
set_option maxHeartbeats 4000000 in
theorem s_X2_moveUpFrom_b0 {X : MC} (C : Cx X cX2_moveUpFrom RX2 wsX2_moveUpFrom 3 rmX2_moveUpFrom none) (a1 : Int32) (S : St) {r0 : Unit × St} (h : f_X2_moveUpFrom_b0 a1 S = some r0) : G X (QM mkV X r0) S 0 [(0, .ref (ad X 3)), (1, .int a1)] [] := by
  unfold f_X2_moveUpFrom_b0 at h
  refine g_aload_n (pc := 0) C dX2_moveUpFrom_0 rfl 0 rfl ?_
  refine g_get (pc := 1) C 3 (w_3 _ _) rfl 3 (Nat.le_of_ble_eq_true rfl) in_X2_X2_moveUpFrom k22_X2_moveUpFrom rfl dX2_moveUpFrom_1 ?_
  refine g_leti h (fun x1 h => ?_)
  refine g_istore_n (pc := 4) C [(2, .int x1), (0, .ref (ad X 3)), (1, .int a1)] dX2_moveUpFrom_4 rfl (Nat.le_of_ble_eq_true rfl) rfl ?_
  refine g_weak (lv1 := [(0, .ref (ad X 3)), (1, .int a1), (2, .int x1)]) [1, 2, 0] rfl ?_
  exact s_X2_moveUpFrom_l5 C a1 _ (x1, S) _ h
theorem c_X2_moveUpFrom (l : Launch) (b : Bw) (a1 : Int32) (S : St) : Ct l b yX2_moveUpFrom wsX2_moveUpFrom rmX2_moveUpFrom [.ref (bad b 3), .int a1] S mkV (f_X2_moveUpFrom a1 S) := Ct.of (by decide +kernel) rfl (Nat.le_of_ble_eq_true rfl) (fun X C hl hb r h => by
  subst hl; subst hb
  exact s_X2_moveUpFrom_b0 C a1 S h)
/-! StyleRows$Levels.put(IIZ)I -/
set_option maxRecDepth 100000 in
set_option maxHeartbeats 4000000 in
theorem s_X2_put_b85 {X : MC} (C : Cx X cX2_put RX2 wsX2_put 6 rmX2_put (some .int)) (v1 : Int32) (v2 : Int32) (v3 : Int32) (v4 : Int32) (S : St) {r0 : Int32 × St} (h : f_X2_put_b85 v1 v2 v3 v4 S = some r0) : G X (QM mkI X r0) S 85 [(0, .ref (ad X 3)), (1, .int v1), (2, .int v2), (3, .int v3), (4, .int v4)] [] := by
  unfold f_X2_put_b85 at h
  refine g_aload_n (pc := 85) C dX2_put_85 rfl 0 rfl ?_
  refine g_get (pc := 86) C 3 (w_3 _ _) rfl 0 (Nat.le_of_ble_eq_true rfl) in_X2_X2_put k11_X2_put rfl dX2_put_86 ?_
  refine g_iload (pc := 89) C dX2_put_89 4 rfl ?_
  refine g_iload_n (pc := 91) C dX2_put_91 rfl 1 rfl ?_
  refine g_iast (pc := 92) C 18 (w_18 _ _) (ws_18 _ _) h dX2_put_92 (fun S1 h => ?_)
  refine g_aload_n (pc := 93) C dX2_put_93 rfl 0 rfl ?_
  refine g_get (pc := 94) C 3 (w_3 _ _) rfl 1 (Nat.le_of_ble_eq_true rfl) in_X2_X2_put k15_X2_put rfl dX2_put_94 ?_
  refine g_iload (pc := 97) C dX2_put_97 4 rfl ?_
  refine g_iload_n (pc := 99) C dX2_put_99 rfl 2 rfl ?_
  refine g_iast (pc := 100) C 19 (w_19 _ _) (ws_19 _ _) h dX2_put_100 (fun S2 h => ?_)
  refine g_aload_n (pc := 101) C dX2_put_101 rfl 0 rfl ?_
  refine g_get (pc := 102) C 3 (w_3 _ _) rfl 2 (Nat.le_of_ble_eq_true rfl) in_X2_X2_put k18_X2_put rfl dX2_put_102 ?_
  refine g_iload (pc := 105) C dX2_put_105 4 rfl ?_
  refine g_iload_n (pc := 107) C dX2_put_107 rfl 3 rfl ?_
  refine g_zast (pc := 108) C 20 (w_20 _ _) (ws_20 _ _) h dX2_put_108 (fun S3 h => ?_)
  refine g_aload_n (pc := 109) C dX2_put_109 rfl 0 rfl ?_
  refine g_get (pc := 110) C 3 (w_3 _ _) rfl 3 (Nat.le_of_ble_eq_true rfl) in_X2_X2_put k22_X2_put rfl dX2_put_110 ?_
  exact g_iret (pc := 113) C h dX2_put_113
set_option maxRecDepth 100000 in
set_option maxHeartbeats 4000000 in
theorem s_X2_put_b74 {X : MC} (C : Cx X cX2_put RX2 wsX2_put 6 rmX2_put (some .int)) (v1 : Int32) (v2 : Int32) (v3 : Int32) (v4 : Int32) (v5 : Int32) (S : St) {r0 : Int32 × St} (h : f_X2_put_b74 v1 v2 v3 v4 v5 S = some r0) : G X (QM mkI X r0) S 74 [(0, .ref (ad X 3)), (1, .int v1), (2, .int v2), (3, .int v3), (4, .int v4), (5, .int v5)] [] := by
  unfold f_X2_put_b74 at h
  refine g_iload (pc := 74) C dX2_put_74 5 rfl ?_
  refine g_if_ne (pc := 76) (tgt := 85) C h dX2_put_76 (by decide) (fun h => ?_) (fun h => ?_)
  · refine g_weak (lv1 := [(0, .ref (ad X 3)), (1, .int v1), (2, .int v2), (3, .int v3), (4, .int v4)]) [0, 1, 2, 3, 4] rfl ?_
    exact s_X2_put_b85 C v1 v2 v3 v4  S h
  · refine g_aload_n (pc := 79) C dX2_put_79 rfl 0 rfl ?_
    refine g_iload (pc := 80) C dX2_put_80 4 rfl ?_
    refine g_callV (pc := 82) C 3 (c_X2_moveUpFrom (Xl X) (Xb X) v4 S) gX2_put_X2_moveUpFrom rfl rfl rfl hd_X2_moveUpFrom ⟨Nat.le_of_ble_eq_true rfl, Nat.le_of_ble_eq_true rfl⟩ (w_3 _ _) rfl rfl rfl (Nat.le_of_ble_eq_true rfl) dX2_put_82 h (fun _u4 S4 h => ?_)
    change G X _ S4 85 [(0, .ref (ad X 3)), (1, .int v1), (2, .int v2), (3, .int v3), (4, .int v4), (5, .int v5)] []
    refine g_weak (lv1 := [(0, .ref (ad X 3)), (1, .int v1), (2, .int v2), (3, .int v3), (4, .int v4)]) [0, 1, 2, 3, 4] rfl ?_
    exact s_X2_put_b85 C v1 v2 v3 v4  S4 h
set_option maxRecDepth 100000 in
set_option maxHeartbeats 4000000 in
theorem s_X2_put_b54 {X : MC} (C : Cx X cX2_put RX2 wsX2_put 6 rmX2_put (some .int)) (v1 : Int32) (v2 : Int32) (v3 : Int32) (v4 : Int32) (w0 : Int32) (S : St) {r0 : Int32 × St} (h : f_X2_put_b54 v1 v2 v3 v4 w0 S = some r0) : G X (QM mkI X r0) S 54 [(0, .ref (ad X 3)), (1, .int v1), (2, .int v2), (3, .int v3), (4, .int v4)] [.int w0] := by
  unfold f_X2_put_b54 at h
  refine g_istore (pc := 54) C [(5, .int w0), (0, .ref (ad X 3)), (1, .int v1), (2, .int v2), (3, .int v3), (4, .int v4)] dX2_put_54 (Nat.le_of_ble_eq_true rfl) rfl ?_
  refine g_iload (pc := 56) C dX2_put_56 0 rfl ?_
  refine g_if_ne (pc := 58) (tgt := 74) C h dX2_put_58 (by decide) (fun h => ?_) (fun h => ?_)
  · refine g_weak (lv1 := [(0, .ref (ad X 3)), (1, .int v1), (2, .int v2), (3, .int v3), (4, .int v4), (5, .int w0)]) [1, 2, 3, 4, 5, 0] rfl ?_
    exact s_X2_put_b74 C v1 v2 v3 v4 w0  S h
  · refine g_aload_n (pc := 61) C dX2_put_61 rfl 1 rfl ?_
    refine g_get (pc := 62) C 3 (w_3 _ _) rfl 3 (Nat.le_of_ble_eq_true rfl) in_X2_X2_put k22_X2_put rfl dX2_put_62 ?_
    refine g_bipush (pc := 65) (v := 12) C dX2_put_65 (by decide) ?_
    refine g_icmp_lt (pc := 67) (tgt := 74) C h dX2_put_67 (by decide) (fun h => ?_) (fun h => ?_)
    · refine g_weak (lv1 := [(0, .ref (ad X 3)), (1, .int v1), (2, .int v2), (3, .int v3), (4, .int v4), (5, .int w0)]) [1, 2, 3, 4, 5, 0] rfl ?_
      exact s_X2_put_b74 C v1 v2 v3 v4 w0  S h
    · refine g_sipush (pc := 70) (v := (-1004)) C dX2_put_70 (by decide) ?_
      exact g_iret (pc := 73) C h dX2_put_73
set_option maxRecDepth 100000 in
set_option maxHeartbeats 4000000 in
theorem s_X2_put_b53 {X : MC} (C : Cx X cX2_put RX2 wsX2_put 6 rmX2_put (some .int)) (v1 : Int32) (v2 : Int32) (v3 : Int32) (v4 : Int32) (S : St) {r0 : Int32 × St} (h : f_X2_put_b53 v1 v2 v3 v4 S = some r0) : G X (QM mkI X r0) S 53 [(0, .ref (ad X 3)), (1, .int v1), (2, .int v2), (3, .int v3), (4, .int v4)] [] := by
  unfold f_X2_put_b53 at h
  refine g_iconst (pc := 53) (v := 0) C dX2_put_53 (by decide) ?_
  refine g_weak (lv1 := [(0, .ref (ad X 3)), (1, .int v1), (2, .int v2), (3, .int v3), (4, .int v4)]) [0, 1, 2, 3, 4] rfl ?_
  exact s_X2_put_b54 C v1 v2 v3 v4 0  S h
set_option maxRecDepth 100000 in
set_option maxHeartbeats 4000000 in
theorem s_X2_put_b29 {X : MC} (C : Cx X cX2_put RX2 wsX2_put 6 rmX2_put (some .int)) (v1 : Int32) (v2 : Int32) (v3 : Int32) (v4 : Int32) (S : St) {r0 : Int32 × St} (h : f_X2_put_b29 v1 v2 v3 v4 S = some r0) : G X (QM mkI X r0) S 29 [(0, .ref (ad X 3)), (1, .int v1), (2, .int v2), (3, .int v3), (4, .int v4)] [] := by
  unfold f_X2_put_b29 at h
  refine g_iload (pc := 29) C dX2_put_29 4 rfl ?_
  refine g_aload_n (pc := 31) C dX2_put_31 rfl 0 rfl ?_
  refine g_get (pc := 32) C 3 (w_3 _ _) rfl 3 (Nat.le_of_ble_eq_true rfl) in_X2_X2_put k22_X2_put rfl dX2_put_32 ?_
  refine g_icmp_ge (pc := 35) (tgt := 53) C h dX2_put_35 (by decide) (fun h => ?_) (fun h => ?_)
  · refine g_weak (lv1 := [(0, .ref (ad X 3)), (1, .int v1), (2, .int v2), (3, .int v3), (4, .int v4)]) [0, 1, 2, 3, 4] rfl ?_
    exact s_X2_put_b53 C v1 v2 v3 v4  S h
  · refine g_aload_n (pc := 38) C dX2_put_38 rfl 0 rfl ?_
    refine g_get (pc := 39) C 3 (w_3 _ _) rfl 0 (Nat.le_of_ble_eq_true rfl) in_X2_X2_put k11_X2_put rfl dX2_put_39 ?_
    refine g_iload (pc := 42) C dX2_put_42 4 rfl ?_
    refine g_iald (pc := 44) C 18 (w_18 _ _) h dX2_put_44 (fun h => ?_)
    refine g_iload_n (pc := 45) C dX2_put_45 rfl 1 rfl ?_
    refine g_icmp_ne (pc := 46) (tgt := 53) C h dX2_put_46 (by decide) (fun h => ?_) (fun h => ?_)
    · refine g_weak (lv1 := [(0, .ref (ad X 3)), (1, .int v1), (2, .int v2), (3, .int v3), (4, .int v4)]) [0, 1, 2, 3, 4] rfl ?_
      exact s_X2_put_b53 C v1 v2 v3 v4  S h
    · refine g_iconst (pc := 49) (v := 1) C dX2_put_49 (by decide) ?_
      refine g_goto (pc := 50) (tgt := 54) C dX2_put_50 (by decide) ?_
      refine g_weak (lv1 := [(0, .ref (ad X 3)), (1, .int v1), (2, .int v2), (3, .int v3), (4, .int v4)]) [0, 1, 2, 3, 4] rfl ?_
      exact s_X2_put_b54 C v1 v2 v3 v4 1  S h
set_option maxRecDepth 100000 in
set_option maxHeartbeats 4000000 in
theorem s_X2_put_b3 {X : MC} (C : Cx X cX2_put RX2 wsX2_put 6 rmX2_put (some .int)) {rec3 : Int32 × St → Option (Int32 × St)} (v1 : Int32) (v2 : Int32) (v3 : Int32) (v4 : Int32) (hrec3 : ∀ (s : Int32 × St) (r : Int32 × St), rec3 s = some r → G X (QM mkI X r) s.2 3 [(0, .ref (ad X 3)), (1, .int v1), (2, .int v2), (3, .int v3), (4, .int (s.1))] []) (S : St) {r0 : Int32 × St} (h : f_X2_put_b3 rec3 v1 v2 v3 v4 S = some r0) : G X (QM mkI X r0) S 3 [(0, .ref (ad X 3)), (1, .int v1), (2, .int v2), (3, .int v3), (4, .int v4)] [] := by
  unfold f_X2_put_b3 at h
  refine g_iload (pc := 3) C dX2_put_3 4 rfl ?_
  refine g_aload_n (pc := 5) C dX2_put_5 rfl 0 rfl ?_
  refine g_get (pc := 6) C 3 (w_3 _ _) rfl 3 (Nat.le_of_ble_eq_true rfl) in_X2_X2_put k22_X2_put rfl dX2_put_6 ?_
  refine g_icmp_ge (pc := 9) (tgt := 29) C h dX2_put_9 (by decide) (fun h => ?_) (fun h => ?_)
  · refine g_weak (lv1 := [(0, .ref (ad X 3)), (1, .int v1), (2, .int v2), (3, .int v3), (4, .int v4)]) [0, 1, 2, 3, 4] rfl ?_
    exact s_X2_put_b29 C v1 v2 v3 v4  S h
  · refine g_aload_n (pc := 12) C dX2_put_12 rfl 0 rfl ?_
    refine g_get (pc := 13) C 3 (w_3 _ _) rfl 0 (Nat.le_of_ble_eq_true rfl) in_X2_X2_put k11_X2_put rfl dX2_put_13 ?_
    refine g_iload (pc := 16) C dX2_put_16 4 rfl ?_
    refine g_iald (pc := 18) C 18 (w_18 _ _) h dX2_put_18 (fun h => ?_)
    refine g_iload_n (pc := 19) C dX2_put_19 rfl 1 rfl ?_
    refine g_icmp_ge (pc := 20) (tgt := 29) C h dX2_put_20 (by decide) (fun h => ?_) (fun h => ?_)
    · refine g_weak (lv1 := [(0, .ref (ad X 3)), (1, .int v1), (2, .int v2), (3, .int v3), (4, .int v4)]) [0, 1, 2, 3, 4] rfl ?_
      exact s_X2_put_b29 C v1 v2 v3 v4  S h
    · refine g_iinc (pc := 23) (v := v4 + 1) C [(4, .int (v4 + 1)), (0, .ref (ad X 3)), (1, .int v1), (2, .int v2), (3, .int v3)] dX2_put_23 4 rfl rfl (Nat.le_of_ble_eq_true rfl) rfl ?_
      refine g_goto (pc := 26) (tgt := 3) C dX2_put_26 (by decide) ?_
      refine g_weak (lv1 := [(0, .ref (ad X 3)), (1, .int v1), (2, .int v2), (3, .int v3), (4, .int (v4 + 1))]) [1, 2, 3, 4, 0] rfl ?_
      exact hrec3 (v4 + 1, S) _ h
set_option maxRecDepth 100000 in
set_option maxHeartbeats 4000000 in
theorem s_X2_put_l3 {X : MC} (C : Cx X cX2_put RX2 wsX2_put 6 rmX2_put (some .int)) (v1 : Int32) (v2 : Int32) (v3 : Int32) : ∀ (n : Nat) (s : Int32 × St) (r : Int32 × St), f_X2_put_l3 v1 v2 v3 n s = some r → G X (QM mkI X r) s.2 3 [(0, .ref (ad X 3)), (1, .int v1), (2, .int v2), (3, .int v3), (4, .int (s.1))] [] :=
  loop_sound (fun rec3 hrec3 s r h => s_X2_put_b3 C v1 v2 v3 s.1 hrec3 s.2 h)
set_option maxRecDepth 100000 in
set_option maxHeartbeats 4000000 in
theorem s_X2_put_b0 {X : MC} (C : Cx X cX2_put RX2 wsX2_put 6 rmX2_put (some .int)) (a1 : Int32) (a2 : Int32) (a3 : Int32) (S : St) {r0 : Int32 × St} (h : f_X2_put_b0 a1 a2 a3 S = some r0) : G X (QM mkI X r0) S 0 [(0, .ref (ad X 3)), (1, .int a1), (2, .int a2), (3, .int a3)] [] := by
  unfold f_X2_put_b0 at h
  refine g_iconst (pc := 0) (v := 0) C dX2_put_0 (by decide) ?_
  refine g_istore (pc := 1) C [(4, .int 0), (0, .ref (ad X 3)), (1, .int a1), (2, .int a2), (3, .int a3)] dX2_put_1 (Nat.le_of_ble_eq_true rfl) rfl ?_
  refine g_weak (lv1 := [(0, .ref (ad X 3)), (1, .int a1), (2, .int a2), (3, .int a3), (4, .int 0)]) [1, 2, 3, 4, 0] rfl ?_
  exact s_X2_put_l3 C a1 a2 a3 _ (0, S) _ h
theorem c_X2_put (l : Launch) (b : Bw) (a1 : Int32) (a2 : Int32) (a3 : Int32) (S : St) : Ct l b yX2_put wsX2_put rmX2_put [.ref (bad b 3), .int a1, .int a2, .int a3] S mkI (f_X2_put a1 a2 a3 S) := Ct.of (by decide +kernel) rfl (Nat.le_of_ble_eq_true rfl) (fun X C hl hb r h => by
  subst hl; subst hb
  exact s_X2_put_b0 C a1 a2 a3 S h)
/-! StyleRows.level(IIZ)I -/
set_option maxRecDepth 100000 in
set_option maxHeartbeats 4000000 in
theorem s_X11_level_b17 {X : MC} (C : Cx X cX11_level RX11 wsX11_level 4 rmX11_level (some .int)) (S : St) {r0 : Int32 × St} (h : f_X11_level_b17 S = some r0) : G X (QM mkI X r0) S 17 [] [] := by
  unfold f_X11_level_b17 at h
  refine g_sipush (pc := 17) (v := (-1002)) C dX11_level_17 (by decide) ?_
  exact g_iret (pc := 20) C h dX11_level_20
set_option maxRecDepth 100000 in
set_option maxHeartbeats 4000000 in
theorem s_X11_level_b0 {X : MC} (C : Cx X cX11_level RX11 wsX11_level 4 rmX11_level (some .int)) (a1 : Int32) (a2 : Int32) (a3 : Int32) (S : St) {r0 : Int32 × St} (h : f_X11_level_b0 a1 a2 a3 S = some r0) : G X (QM mkI X r0) S 0 [(0, .ref (ad X 0)), (1, .int a1), (2, .int a2), (3, .int a3)] [] := by
  unfold f_X11_level_b0 at h
  refine g_iload_n (pc := 0) C dX11_level_0 rfl 1 rfl ?_
  refine g_callS (pc := 1) C (c_X11_isTick (Xl X) (Xb X) a1 S) gX11_level_X11_isTick rfl rfl rfl hd_X11_isTick ⟨Nat.le_of_ble_eq_true rfl, Nat.le_of_ble_eq_true rfl⟩ rfl rfl (Nat.le_of_ble_eq_true rfl) dX11_level_1 h (fun r2 S1 h => ?_)
  change G X _ S1 4 [(0, .ref (ad X 0)), (1, .int a1), (2, .int a2), (3, .int a3)] [.int r2]
  refine g_if_eq (pc := 4) (tgt := 17) C h dX11_level_4 (by decide) (fun h => ?_) (fun h => ?_)
  · refine g_weak (lv1 := []) [] rfl ?_
    exact s_X11_level_b17 C   S1 h
  · refine g_iload_n (pc := 7) C dX11_level_7 rfl 2 rfl ?_
    refine g_iconst (pc := 8) (v := 1) C dX11_level_8 (by decide) ?_
    refine g_bipush (pc := 9) (v := 127) C dX11_level_9 (by decide) ?_
    refine g_callS (pc := 11) C (c_X11_isWithin (Xl X) (Xb X) a2 1 127 S1) gX11_level_X11_isWithin rfl rfl rfl hd_X11_isWithin ⟨Nat.le_of_ble_eq_true rfl, Nat.le_of_ble_eq_true rfl⟩ rfl rfl (Nat.le_of_ble_eq_true rfl) dX11_level_11 h (fun r4 S3 h => ?_)
    change G X _ S3 14 [(0, .ref (ad X 0)), (1, .int a1), (2, .int a2), (3, .int a3)] [.int r4]
    refine g_if_ne (pc := 14) (tgt := 21) C h dX11_level_14 (by decide) (fun h => ?_) (fun h => ?_)
    · refine g_aload_n (pc := 21) C dX11_level_21 rfl 0 rfl ?_
      refine g_get (pc := 22) C 0 (w_0 _ _) rfl 1 (Nat.le_of_ble_eq_true rfl) in_X11_X11_level k16_X11_level rfl dX11_level_22 ?_
      refine g_getN (pc := 25) C 1 (w_1 _ _) rfl 1 (Nat.le_of_ble_eq_true rfl) in_X9_X11_level nw_X11_90 rfl dX11_level_25 ?_
      refine g_iload_n (pc := 28) C dX11_level_28 rfl 1 rfl ?_
      refine g_iload_n (pc := 29) C dX11_level_29 rfl 2 rfl ?_
      refine g_iload_n (pc := 30) C dX11_level_30 rfl 3 rfl ?_
      refine g_callV (pc := 31) C 3 (c_X2_put (Xl X) (Xb X) a1 a2 a3 S3) gX11_level_X2_put rfl rfl rfl hd_X2_put ⟨Nat.le_of_ble_eq_true rfl, Nat.le_of_ble_eq_true rfl⟩ (w_3 _ _) rfl rfl rfl (Nat.le_of_ble_eq_true rfl) dX11_level_31 h (fun r6 S5 h => ?_)
      change G X _ S5 34 [(0, .ref (ad X 0)), (1, .int a1), (2, .int a2), (3, .int a3)] [.int r6]
      exact g_iret (pc := 34) C h dX11_level_34
    · refine g_weak (lv1 := []) [] rfl ?_
      exact s_X11_level_b17 C   S3 h
theorem c_X11_level (l : Launch) (b : Bw) (a1 : Int32) (a2 : Int32) (a3 : Int32) (S : St) : Ct l b yX11_level wsX11_level rmX11_level [.ref (bad b 0), .int a1, .int a2, .int a3] S mkI (f_X11_level a1 a2 a3 S) := Ct.of (by decide +kernel) rfl (Nat.le_of_ble_eq_true rfl) (fun X C hl hb r h => by
  subst hl; subst hb
  exact s_X11_level_b0 C a1 a2 a3 S h)
/-! StyleRows$Levels.at(I)I -/
set_option maxRecDepth 100000 in
set_option maxHeartbeats 4000000 in
theorem s_X2_at_b54 {X : MC} (C : Cx X cX2_at RX2 wsX2_at 6 rmX2_at (some .int)) (v3 : Int32) (S : St) {r0 : Int32 × St} (h : f_X2_at_b54 v3 S = some r0) : G X (QM mkI X r0) S 54 [(0, .ref (ad X 3)), (3, .int v3)] [] := by
  unfold f_X2_at_b54 at h
  refine g_aload_n (pc := 54) C dX2_at_54 rfl 0 rfl ?_
  refine g_get (pc := 55) C 3 (w_3 _ _) rfl 1 (Nat.le_of_ble_eq_true rfl) in_X2_X2_at k15_X2_at rfl dX2_at_55 ?_
  refine g_iload_n (pc := 58) C dX2_at_58 rfl 1 rfl ?_
  refine g_iald (pc := 59) C 19 (w_19 _ _) h dX2_at_59 (fun h => ?_)
  exact g_iret (pc := 60) C h dX2_at_60
set_option maxRecDepth 100000 in
set_option maxHeartbeats 4000000 in
theorem s_X2_at_b26 {X : MC} (C : Cx X cX2_at RX2 wsX2_at 6 rmX2_at (some .int)) (v1 : Int32) (v2 : Int32) (S : St) {r0 : Int32 × St} (h : f_X2_at_b26 v1 v2 S = some r0) : G X (QM mkI X r0) S 26 [(0, .ref (ad X 3)), (1, .int v1), (2, .int v2)] [] := by
  unfold f_X2_at_b26 at h
  refine g_iload_n (pc := 26) C dX2_at_26 rfl 2 rfl ?_
  refine g_if_ne (pc := 27) (tgt := 33) C h dX2_at_27 (by decide) (fun h => ?_) (fun h => ?_)
  · refine g_iload_n (pc := 33) C dX2_at_33 rfl 2 rfl ?_
    refine g_iconst (pc := 34) (v := 1) C dX2_at_34 (by decide) ?_
    refine g_isub (pc := 35) C dX2_at_35 ?_
    refine g_leti h (fun x1 h => ?_)
    refine g_istore_n (pc := 36) C [(3, .int x1), (0, .ref (ad X 3)), (1, .int v1), (2, .int v2)] dX2_at_36 rfl (Nat.le_of_ble_eq_true rfl) rfl ?_
    refine g_iload_n (pc := 37) C dX2_at_37 rfl 3 rfl ?_
    refine g_aload_n (pc := 38) C dX2_at_38 rfl 1 rfl ?_
    refine g_get (pc := 39) C 3 (w_3 _ _) rfl 3 (Nat.le_of_ble_eq_true rfl) in_X2_X2_at k22_X2_at rfl dX2_at_39 ?_
    refine g_icmp_eq (pc := 42) (tgt := 54) C h dX2_at_42 (by decide) (fun h => ?_) (fun h => ?_)
    · refine g_weak (lv1 := [(0, .ref (ad X 3)), (3, .int x1)]) [1, 0] rfl ?_
      exact s_X2_at_b54 C x1  S h
    · refine g_aload_n (pc := 45) C dX2_at_45 rfl 1 rfl ?_
      refine g_get (pc := 46) C 3 (w_3 _ _) rfl 2 (Nat.le_of_ble_eq_true rfl) in_X2_X2_at k18_X2_at rfl dX2_at_46 ?_
      refine g_iload_n (pc := 49) C dX2_at_49 rfl 3 rfl ?_
      refine g_zald (pc := 50) C 20 (w_20 _ _) h dX2_at_50 (fun h => ?_)
      refine g_if_ne (pc := 51) (tgt := 61) C h dX2_at_51 (by decide) (fun h => ?_) (fun h => ?_)
      · refine g_aload_n (pc := 61) C dX2_at_61 rfl 1 rfl ?_
        refine g_get (pc := 62) C 3 (w_3 _ _) rfl 1 (Nat.le_of_ble_eq_true rfl) in_X2_X2_at k15_X2_at rfl dX2_at_62 ?_
        refine g_iload_n (pc := 65) C dX2_at_65 rfl 3 rfl ?_
        refine g_iald (pc := 66) C 19 (w_19 _ _) h dX2_at_66 (fun h => ?_)
        refine g_aload_n (pc := 67) C dX2_at_67 rfl 1 rfl ?_
        refine g_get (pc := 68) C 3 (w_3 _ _) rfl 1 (Nat.le_of_ble_eq_true rfl) in_X2_X2_at k15_X2_at rfl dX2_at_68 ?_
        refine g_iload_n (pc := 71) C dX2_at_71 rfl 0 rfl ?_
        refine g_iald (pc := 72) C 19 (w_19 _ _) h dX2_at_72 (fun h => ?_)
        refine g_isub (pc := 73) C dX2_at_73 ?_
        refine g_i2l (pc := 74) C dX2_at_74 ?_
        refine g_iload_n (pc := 75) C dX2_at_75 rfl 2 rfl ?_
        refine g_aload_n (pc := 76) C dX2_at_76 rfl 1 rfl ?_
        refine g_get (pc := 77) C 3 (w_3 _ _) rfl 0 (Nat.le_of_ble_eq_true rfl) in_X2_X2_at k11_X2_at rfl dX2_at_77 ?_
        refine g_iload_n (pc := 80) C dX2_at_80 rfl 0 rfl ?_
        refine g_iald (pc := 81) C 18 (w_18 _ _) h dX2_at_81 (fun h => ?_)
        refine g_isub (pc := 82) C dX2_at_82 ?_
        refine g_i2l (pc := 83) C dX2_at_83 ?_
        refine g_lmul (pc := 84) C dX2_at_84 ?_
        refine g_letl h (fun y2 h => ?_)
        refine g_lstore (pc := 85) C [(4, .long y2), (3, .int x1), (0, .ref (ad X 3)), (1, .int v1), (2, .int v2)] dX2_at_85 (Nat.le_of_ble_eq_true rfl) rfl ?_
        refine g_aload_n (pc := 87) C dX2_at_87 rfl 2 rfl ?_
        refine g_get (pc := 88) C 3 (w_3 _ _) rfl 1 (Nat.le_of_ble_eq_true rfl) in_X2_X2_at k15_X2_at rfl dX2_at_88 ?_
        refine g_iload_n (pc := 91) C dX2_at_91 rfl 1 rfl ?_
        refine g_iald (pc := 92) C 19 (w_19 _ _) h dX2_at_92 (fun h => ?_)
        refine g_lload (pc := 93) C dX2_at_93 0 rfl ?_
        refine g_aload_n (pc := 95) C dX2_at_95 rfl 2 rfl ?_
        refine g_get (pc := 96) C 3 (w_3 _ _) rfl 0 (Nat.le_of_ble_eq_true rfl) in_X2_X2_at k11_X2_at rfl dX2_at_96 ?_
        refine g_iload_n (pc := 99) C dX2_at_99 rfl 4 rfl ?_
        refine g_iald (pc := 100) C 18 (w_18 _ _) h dX2_at_100 (fun h => ?_)
        refine g_aload_n (pc := 101) C dX2_at_101 rfl 2 rfl ?_
        refine g_get (pc := 102) C 3 (w_3 _ _) rfl 0 (Nat.le_of_ble_eq_true rfl) in_X2_X2_at k11_X2_at rfl dX2_at_102 ?_
        refine g_iload_n (pc := 105) C dX2_at_105 rfl 1 rfl ?_
        refine g_iald (pc := 106) C 18 (w_18 _ _) h dX2_at_106 (fun h => ?_)
        refine g_isub (pc := 107) C dX2_at_107 ?_
        refine g_i2l (pc := 108) C dX2_at_108 ?_
        refine g_callSN (pc := 109) C (c_X11_quotient (Xl X) (Xb X) y2 (Int32.toInt64 ((rd S 18 v2) - (rd S 18 x1))) S) gX2_at_X11_quotient_n30 rfl rfl rfl nw_X2_30 kiniX11_X2_at kstX11_quotient_X2_at hd_X11_quotient ⟨Nat.le_of_ble_eq_true rfl, Nat.le_of_ble_eq_true rfl⟩ rfl rfl (Nat.le_of_ble_eq_true rfl) dX2_at_109 h (fun r4 S3 h => ?_)
        change G X _ S3 112 [(4, .long y2), (3, .int x1), (0, .ref (ad X 3)), (1, .int v1), (2, .int v2)] [.int r4, .int (rd S 19 x1)]
        refine g_iadd (pc := 112) C dX2_at_112 ?_
        exact g_iret (pc := 113) C h dX2_at_113
      · refine g_weak (lv1 := [(0, .ref (ad X 3)), (3, .int x1)]) [1, 0] rfl ?_
        exact s_X2_at_b54 C x1  S h
  · refine g_bipush (pc := 30) (v := 64) C dX2_at_30 (by decide) ?_
    exact g_iret (pc := 32) C h dX2_at_32
set_option maxRecDepth 100000 in
set_option maxHeartbeats 4000000 in
theorem s_X2_at_b2 {X : MC} (C : Cx X cX2_at RX2 wsX2_at 6 rmX2_at (some .int)) {rec2 : Int32 × St → Option (Int32 × St)} (v1 : Int32) (v2 : Int32) (hrec2 : ∀ (s : Int32 × St) (r : Int32 × St), rec2 s = some r → G X (QM mkI X r) s.2 2 [(0, .ref (ad X 3)), (1, .int v1), (2, .int (s.1))] []) (S : St) {r0 : Int32 × St} (h : f_X2_at_b2 rec2 v1 v2 S = some r0) : G X (QM mkI X r0) S 2 [(0, .ref (ad X 3)), (1, .int v1), (2, .int v2)] [] := by
  unfold f_X2_at_b2 at h
  refine g_iload_n (pc := 2) C dX2_at_2 rfl 2 rfl ?_
  refine g_aload_n (pc := 3) C dX2_at_3 rfl 0 rfl ?_
  refine g_get (pc := 4) C 3 (w_3 _ _) rfl 3 (Nat.le_of_ble_eq_true rfl) in_X2_X2_at k22_X2_at rfl dX2_at_4 ?_
  refine g_icmp_ge (pc := 7) (tgt := 26) C h dX2_at_7 (by decide) (fun h => ?_) (fun h => ?_)
  · refine g_weak (lv1 := [(0, .ref (ad X 3)), (1, .int v1), (2, .int v2)]) [0, 1, 2] rfl ?_
    exact s_X2_at_b26 C v1 v2  S h
  · refine g_aload_n (pc := 10) C dX2_at_10 rfl 0 rfl ?_
    refine g_get (pc := 11) C 3 (w_3 _ _) rfl 0 (Nat.le_of_ble_eq_true rfl) in_X2_X2_at k11_X2_at rfl dX2_at_11 ?_
    refine g_iload_n (pc := 14) C dX2_at_14 rfl 2 rfl ?_
    refine g_iald (pc := 15) C 18 (w_18 _ _) h dX2_at_15 (fun h => ?_)
    refine g_iload_n (pc := 16) C dX2_at_16 rfl 1 rfl ?_
    refine g_icmp_gt (pc := 17) (tgt := 26) C h dX2_at_17 (by decide) (fun h => ?_) (fun h => ?_)
    · refine g_weak (lv1 := [(0, .ref (ad X 3)), (1, .int v1), (2, .int v2)]) [0, 1, 2] rfl ?_
      exact s_X2_at_b26 C v1 v2  S h
    · refine g_iinc (pc := 20) (v := v2 + 1) C [(2, .int (v2 + 1)), (0, .ref (ad X 3)), (1, .int v1)] dX2_at_20 2 rfl rfl (Nat.le_of_ble_eq_true rfl) rfl ?_
      refine g_goto (pc := 23) (tgt := 2) C dX2_at_23 (by decide) ?_
      refine g_weak (lv1 := [(0, .ref (ad X 3)), (1, .int v1), (2, .int (v2 + 1))]) [1, 2, 0] rfl ?_
      exact hrec2 (v2 + 1, S) _ h
set_option maxRecDepth 100000 in
set_option maxHeartbeats 4000000 in
theorem s_X2_at_l2 {X : MC} (C : Cx X cX2_at RX2 wsX2_at 6 rmX2_at (some .int)) (v1 : Int32) : ∀ (n : Nat) (s : Int32 × St) (r : Int32 × St), f_X2_at_l2 v1 n s = some r → G X (QM mkI X r) s.2 2 [(0, .ref (ad X 3)), (1, .int v1), (2, .int (s.1))] [] :=
  loop_sound (fun rec2 hrec2 s r h => s_X2_at_b2 C v1 s.1 hrec2 s.2 h)
set_option maxRecDepth 100000 in
set_option maxHeartbeats 4000000 in
theorem s_X2_at_b0 {X : MC} (C : Cx X cX2_at RX2 wsX2_at 6 rmX2_at (some .int)) (a1 : Int32) (S : St) {r0 : Int32 × St} (h : f_X2_at_b0 a1 S = some r0) : G X (QM mkI X r0) S 0 [(0, .ref (ad X 3)), (1, .int a1)] [] := by
  unfold f_X2_at_b0 at h
  refine g_iconst (pc := 0) (v := 0) C dX2_at_0 (by decide) ?_
  refine g_istore_n (pc := 1) C [(2, .int 0), (0, .ref (ad X 3)), (1, .int a1)] dX2_at_1 rfl (Nat.le_of_ble_eq_true rfl) rfl ?_
  refine g_weak (lv1 := [(0, .ref (ad X 3)), (1, .int a1), (2, .int 0)]) [1, 2, 0] rfl ?_
  exact s_X2_at_l2 C a1 _ (0, S) _ h
theorem c_X2_at (l : Launch) (b : Bw) (a1 : Int32) (S : St) : Ct l b yX2_at wsX2_at rmX2_at [.ref (bad b 3), .int a1] S mkI (f_X2_at a1 S) := Ct.of (by decide +kernel) rfl (Nat.le_of_ble_eq_true rfl) (fun X C hl hb r h => by
  subst hl; subst hb
  exact s_X2_at_b0 C a1 S h)
/-! StyleRows.levelAt(I)I -/
set_option maxRecDepth 100000 in
set_option maxHeartbeats 4000000 in
theorem s_X11_levelAt_b24 {X : MC} (C : Cx X cX11_levelAt RX11 wsX11_levelAt 2 rmX11_levelAt (some .int)) (w0 : Int32) (S : St) {r0 : Int32 × St} (h : f_X11_levelAt_b24 w0 S = some r0) : G X (QM mkI X r0) S 24 [] [.int w0] := by
  unfold f_X11_levelAt_b24 at h
  exact g_iret (pc := 24) C h dX11_levelAt_24
set_option maxRecDepth 100000 in
set_option maxHeartbeats 4000000 in
theorem s_X11_levelAt_b0 {X : MC} (C : Cx X cX11_levelAt RX11 wsX11_levelAt 2 rmX11_levelAt (some .int)) (a1 : Int32) (S : St) {r0 : Int32 × St} (h : f_X11_levelAt_b0 a1 S = some r0) : G X (QM mkI X r0) S 0 [(0, .ref (ad X 0)), (1, .int a1)] [] := by
  unfold f_X11_levelAt_b0 at h
  refine g_iload_n (pc := 0) C dX11_levelAt_0 rfl 1 rfl ?_
  refine g_callS (pc := 1) C (c_X11_isTick (Xl X) (Xb X) a1 S) gX11_levelAt_X11_isTick rfl rfl rfl hd_X11_isTick ⟨Nat.le_of_ble_eq_true rfl, Nat.le_of_ble_eq_true rfl⟩ rfl rfl (Nat.le_of_ble_eq_true rfl) dX11_levelAt_1 h (fun r2 S1 h => ?_)
  change G X _ S1 4 [(0, .ref (ad X 0)), (1, .int a1)] [.int r2]
  refine g_if_eq (pc := 4) (tgt := 21) C h dX11_levelAt_4 (by decide) (fun h => ?_) (fun h => ?_)
  · refine g_sipush (pc := 21) (v := (-1002)) C dX11_levelAt_21 (by decide) ?_
    refine g_weak (lv1 := []) [] rfl ?_
    exact s_X11_levelAt_b24 C (-1002)  S1 h
  · refine g_aload_n (pc := 7) C dX11_levelAt_7 rfl 0 rfl ?_
    refine g_get (pc := 8) C 0 (w_0 _ _) rfl 1 (Nat.le_of_ble_eq_true rfl) in_X11_X11_levelAt k16_X11_levelAt rfl dX11_levelAt_8 ?_
    refine g_getN (pc := 11) C 1 (w_1 _ _) rfl 1 (Nat.le_of_ble_eq_true rfl) in_X9_X11_levelAt nw_X11_90 rfl dX11_levelAt_11 ?_
    refine g_iload_n (pc := 14) C dX11_levelAt_14 rfl 1 rfl ?_
    refine g_callV (pc := 15) C 3 (c_X2_at (Xl X) (Xb X) a1 S1) gX11_levelAt_X2_at rfl rfl rfl hd_X2_at ⟨Nat.le_of_ble_eq_true rfl, Nat.le_of_ble_eq_true rfl⟩ (w_3 _ _) rfl rfl rfl (Nat.le_of_ble_eq_true rfl) dX11_levelAt_15 h (fun r4 S3 h => ?_)
    change G X _ S3 18 [(0, .ref (ad X 0)), (1, .int a1)] [.int r4]
    refine g_goto (pc := 18) (tgt := 24) C dX11_levelAt_18 (by decide) ?_
    refine g_weak (lv1 := []) [] rfl ?_
    exact s_X11_levelAt_b24 C r4  S3 h
theorem c_X11_levelAt (l : Launch) (b : Bw) (a1 : Int32) (S : St) : Ct l b yX11_levelAt wsX11_levelAt rmX11_levelAt [.ref (bad b 0), .int a1] S mkI (f_X11_levelAt a1 S) := Ct.of (by decide +kernel) rfl (Nat.le_of_ble_eq_true rfl) (fun X C hl hb r h => by
  subst hl; subst hb
  exact s_X11_levelAt_b0 C a1 S h)
/-! StyleRows$Notes.has(I)Z -/
set_option maxRecDepth 100000 in
set_option maxHeartbeats 4000000 in
theorem s_X4_has_b0 {X : MC} (C : Cx X cX4_has RX4 wsX4_has 2 rmX4_has (some .boolean)) (a1 : Int32) (S : St) {r0 : Int32 × St} (h : f_X4_has_b0 a1 S = some r0) : G X (QM mkI X r0) S 0 [(0, .ref (ad X 2)), (1, .int a1)] [] := by
  unfold f_X4_has_b0 at h
  refine g_iload_n (pc := 0) C dX4_has_0 rfl 1 rfl ?_
  refine g_iconst (pc := 1) (v := 0) C dX4_has_1 (by decide) ?_
  refine g_aload_n (pc := 2) C dX4_has_2 rfl 0 rfl ?_
  refine g_get (pc := 3) C 2 (w_2 _ _) rfl 5 (Nat.le_of_ble_eq_true rfl) in_X4_X4_has k27_X4_has rfl dX4_has_3 ?_
  refine g_iconst (pc := 6) (v := 1) C dX4_has_6 (by decide) ?_
  refine g_isub (pc := 7) C dX4_has_7 ?_
  refine g_callSN (pc := 8) C (c_X11_isWithin (Xl X) (Xb X) a1 0 ((gI S 2) - 1) S) gX4_has_X11_isWithin_n31 rfl rfl rfl nw_X4_31 kiniX11_X4_has kstX11_isWithin_X4_has hd_X11_isWithin ⟨Nat.le_of_ble_eq_true rfl, Nat.le_of_ble_eq_true rfl⟩ rfl rfl (Nat.le_of_ble_eq_true rfl) dX4_has_8 h (fun r2 S1 h => ?_)
  change G X _ S1 11 [(0, .ref (ad X 2)), (1, .int a1)] [.int r2]
  exact g_zret (pc := 11) C h dX4_has_11
theorem c_X4_has (l : Launch) (b : Bw) (a1 : Int32) (S : St) : Ct l b yX4_has wsX4_has rmX4_has [.ref (bad b 2), .int a1] S mkI (f_X4_has a1 S) := Ct.of (by decide +kernel) rfl (Nat.le_of_ble_eq_true rfl) (fun X C hl hb r h => by
  subst hl; subst hb
  exact s_X4_has_b0 C a1 S h)
/-! StyleRows$Notes.changeMarks(II)I -/
set_option maxRecDepth 100000 in
set_option maxHeartbeats 4000000 in
theorem s_X4_changeMarks_b0 {X : MC} (C : Cx X cX4_changeMarks RX4 wsX4_changeMarks 4 rmX4_changeMarks (some .int)) (a1 : Int32) (a2 : Int32) (S : St) {r0 : Int32 × St} (h : f_X4_changeMarks_b0 a1 a2 S = some r0) : G X (QM mkI X r0) S 0 [(0, .ref (ad X 2)), (1, .int a1), (2, .int a2)] [] := by
  unfold f_X4_changeMarks_b0 at h
  refine g_aload_n (pc := 0) C dX4_changeMarks_0 rfl 0 rfl ?_
  refine g_get (pc := 1) C 2 (w_2 _ _) rfl 4 (Nat.le_of_ble_eq_true rfl) in_X4_X4_changeMarks k24_X4_changeMarks rfl dX4_changeMarks_1 ?_
  refine g_iload_n (pc := 4) C dX4_changeMarks_4 rfl 1 rfl ?_
  refine g_iald (pc := 5) C 17 (w_17 _ _) h dX4_changeMarks_5 (fun h => ?_)
  refine g_leti h (fun x1 h => ?_)
  refine g_istore_n (pc := 6) C [(3, .int x1), (0, .ref (ad X 2)), (1, .int a1), (2, .int a2)] dX4_changeMarks_6 rfl (Nat.le_of_ble_eq_true rfl) rfl ?_
  refine g_aload_n (pc := 7) C dX4_changeMarks_7 rfl 1 rfl ?_
  refine g_get (pc := 8) C 2 (w_2 _ _) rfl 4 (Nat.le_of_ble_eq_true rfl) in_X4_X4_changeMarks k24_X4_changeMarks rfl dX4_changeMarks_8 ?_
  refine g_iload_n (pc := 11) C dX4_changeMarks_11 rfl 2 rfl ?_
  refine g_iload_n (pc := 12) C dX4_changeMarks_12 rfl 3 rfl ?_
  refine g_iast (pc := 13) C 17 (w_17 _ _) (ws_17 _ _) h dX4_changeMarks_13 (fun S2 h => ?_)
  refine g_iload_n (pc := 14) C dX4_changeMarks_14 rfl 0 rfl ?_
  exact g_iret (pc := 15) C h dX4_changeMarks_15
theorem c_X4_changeMarks (l : Launch) (b : Bw) (a1 : Int32) (a2 : Int32) (S : St) : Ct l b yX4_changeMarks wsX4_changeMarks rmX4_changeMarks [.ref (bad b 2), .int a1, .int a2] S mkI (f_X4_changeMarks a1 a2 S) := Ct.of (by decide +kernel) rfl (Nat.le_of_ble_eq_true rfl) (fun X C hl hb r h => by
  subst hl; subst hb
  exact s_X4_changeMarks_b0 C a1 a2 S h)
/-! StyleRows.mark(II)I -/
set_option maxRecDepth 100000 in
set_option maxHeartbeats 4000000 in
theorem s_X11_mark_b0 {X : MC} (C : Cx X cX11_mark RX11 wsX11_mark 3 rmX11_mark (some .int)) (a1 : Int32) (a2 : Int32) (S : St) {r0 : Int32 × St} (h : f_X11_mark_b0 a1 a2 S = some r0) : G X (QM mkI X r0) S 0 [(0, .ref (ad X 0)), (1, .int a1), (2, .int a2)] [] := by
  unfold f_X11_mark_b0 at h
  refine g_aload_n (pc := 0) C dX11_mark_0 rfl 0 rfl ?_
  refine g_get (pc := 1) C 0 (w_0 _ _) rfl 1 (Nat.le_of_ble_eq_true rfl) in_X11_X11_mark k16_X11_mark rfl dX11_mark_1 ?_
  refine g_getN (pc := 4) C 1 (w_1 _ _) rfl 0 (Nat.le_of_ble_eq_true rfl) in_X9_X11_mark nw_X11_72 rfl dX11_mark_4 ?_
  refine g_iload_n (pc := 7) C dX11_mark_7 rfl 1 rfl ?_
  refine g_callV (pc := 8) C 2 (c_X4_has (Xl X) (Xb X) a1 S) gX11_mark_X4_has rfl rfl rfl hd_X4_has ⟨Nat.le_of_ble_eq_true rfl, Nat.le_of_ble_eq_true rfl⟩ (w_2 _ _) rfl rfl rfl (Nat.le_of_ble_eq_true rfl) dX11_mark_8 h (fun r2 S1 h => ?_)
  change G X _ S1 11 [(0, .ref (ad X 0)), (1, .int a1), (2, .int a2)] [.int r2]
  refine g_if_ne (pc := 11) (tgt := 18) C h dX11_mark_11 (by decide) (fun h => ?_) (fun h => ?_)
  · refine g_iload_n (pc := 18) C dX11_mark_18 rfl 2 rfl ?_
    refine g_iconst (pc := 19) (v := 0) C dX11_mark_19 (by decide) ?_
    refine g_bipush (pc := 20) (v := 127) C dX11_mark_20 (by decide) ?_
    refine g_callS (pc := 22) C (c_X11_isWithin (Xl X) (Xb X) a2 0 127 S1) gX11_mark_X11_isWithin rfl rfl rfl hd_X11_isWithin ⟨Nat.le_of_ble_eq_true rfl, Nat.le_of_ble_eq_true rfl⟩ rfl rfl (Nat.le_of_ble_eq_true rfl) dX11_mark_22 h (fun r4 S3 h => ?_)
    change G X _ S3 25 [(0, .ref (ad X 0)), (1, .int a1), (2, .int a2)] [.int r4]
    refine g_if_ne (pc := 25) (tgt := 32) C h dX11_mark_25 (by decide) (fun h => ?_) (fun h => ?_)
    · refine g_aload_n (pc := 32) C dX11_mark_32 rfl 0 rfl ?_
      refine g_get (pc := 33) C 0 (w_0 _ _) rfl 1 (Nat.le_of_ble_eq_true rfl) in_X11_X11_mark k16_X11_mark rfl dX11_mark_33 ?_
      refine g_getN (pc := 36) C 1 (w_1 _ _) rfl 0 (Nat.le_of_ble_eq_true rfl) in_X9_X11_mark nw_X11_72 rfl dX11_mark_36 ?_
      refine g_iload_n (pc := 39) C dX11_mark_39 rfl 1 rfl ?_
      refine g_iload_n (pc := 40) C dX11_mark_40 rfl 2 rfl ?_
      refine g_callV (pc := 41) C 2 (c_X4_changeMarks (Xl X) (Xb X) a1 a2 S3) gX11_mark_X4_changeMarks rfl rfl rfl hd_X4_changeMarks ⟨Nat.le_of_ble_eq_true rfl, Nat.le_of_ble_eq_true rfl⟩ (w_2 _ _) rfl rfl rfl (Nat.le_of_ble_eq_true rfl) dX11_mark_41 h (fun r6 S5 h => ?_)
      change G X _ S5 44 [(0, .ref (ad X 0)), (1, .int a1), (2, .int a2)] [.int r6]
      exact g_iret (pc := 44) C h dX11_mark_44
    · refine g_sipush (pc := 28) (v := (-1002)) C dX11_mark_28 (by decide) ?_
      exact g_iret (pc := 31) C h dX11_mark_31
  · refine g_sipush (pc := 14) (v := (-1001)) C dX11_mark_14 (by decide) ?_
    exact g_iret (pc := 17) C h dX11_mark_17
theorem c_X11_mark (l : Launch) (b : Bw) (a1 : Int32) (a2 : Int32) (S : St) : Ct l b yX11_mark wsX11_mark rmX11_mark [.ref (bad b 0), .int a1, .int a2] S mkI (f_X11_mark a1 a2 S) := Ct.of (by decide +kernel) rfl (Nat.le_of_ble_eq_true rfl) (fun X C hl hb r h => by
  subst hl; subst hb
  exact s_X11_mark_b0 C a1 a2 S h)
/-! StyleRows$Score.beat(II)V -/
set_option maxRecDepth 100000 in
set_option maxHeartbeats 4000000 in
theorem s_X9_beat_b0 {X : MC} (C : Cx X cX9_beat RX9 wsX9_beat 3 rmX9_beat none) (a1 : Int32) (a2 : Int32) (S : St) {r0 : Unit × St} (h : f_X9_beat_b0 a1 a2 S = some r0) : G X (QM mkV X r0) S 0 [(0, .ref (ad X 1)), (1, .int a1), (2, .int a2)] [] := by
  unfold f_X9_beat_b0 at h
  refine g_aload_n (pc := 0) C dX9_beat_0 rfl 0 rfl ?_
  refine g_iload_n (pc := 1) C dX9_beat_1 rfl 1 rfl ?_
  refine g_put (pc := 2) C 1 (w_1 _ _) rfl 3 (Nat.le_of_ble_eq_true rfl) in_X9_X9_beat tyX9_ok nmX9 k30_X9_beat rfl rfl rfl (Nat.le_of_ble_eq_true rfl) (ws_1_3 _ _ _) dX9_beat_2 h (fun S1 h => ?_)
  refine g_aload_n (pc := 5) C dX9_beat_5 rfl 0 rfl ?_
  refine g_iload_n (pc := 6) C dX9_beat_6 rfl 2 rfl ?_
  refine g_put (pc := 7) C 1 (w_1 _ _) rfl 4 (Nat.le_of_ble_eq_true rfl) in_X9_X9_beat tyX9_ok nmX9 k34_X9_beat rfl rfl rfl (Nat.le_of_ble_eq_true rfl) (ws_1_4 _ _ _) dX9_beat_7 h (fun S2 h => ?_)
  exact g_vret (pc := 10) C h dX9_beat_10
theorem c_X9_beat (l : Launch) (b : Bw) (a1 : Int32) (a2 : Int32) (S : St) : Ct l b yX9_beat wsX9_beat rmX9_beat [.ref (bad b 1), .int a1, .int a2] S mkV (f_X9_beat a1 a2 S) := Ct.of (by decide +kernel) rfl (Nat.le_of_ble_eq_true rfl) (fun X C hl hb r h => by
  subst hl; subst hb
  exact s_X9_beat_b0 C a1 a2 S h)
/-! StyleRows.meter(II)I -/
set_option maxRecDepth 100000 in
set_option maxHeartbeats 4000000 in
theorem s_X11_meter_b21 {X : MC} (C : Cx X cX11_meter RX11 wsX11_meter 3 rmX11_meter (some .int)) (S : St) {r0 : Int32 × St} (h : f_X11_meter_b21 S = some r0) : G X (QM mkI X r0) S 21 [] [] := by
  unfold f_X11_meter_b21 at h
  refine g_sipush (pc := 21) (v := (-1002)) C dX11_meter_21 (by decide) ?_
  exact g_iret (pc := 24) C h dX11_meter_24
set_option maxRecDepth 100000 in
set_option maxHeartbeats 4000000 in
theorem s_X11_meter_b0 {X : MC} (C : Cx X cX11_meter RX11 wsX11_meter 3 rmX11_meter (some .int)) (a1 : Int32) (a2 : Int32) (S : St) {r0 : Int32 × St} (h : f_X11_meter_b0 a1 a2 S = some r0) : G X (QM mkI X r0) S 0 [(0, .ref (ad X 0)), (1, .int a1), (2, .int a2)] [] := by
  unfold f_X11_meter_b0 at h
  refine g_iload_n (pc := 0) C dX11_meter_0 rfl 1 rfl ?_
  refine g_iconst (pc := 1) (v := 1) C dX11_meter_1 (by decide) ?_
  refine g_bipush (pc := 2) (v := 12) C dX11_meter_2 (by decide) ?_
  refine g_callS (pc := 4) C (c_X11_isWithin (Xl X) (Xb X) a1 1 12 S) gX11_meter_X11_isWithin rfl rfl rfl hd_X11_isWithin ⟨Nat.le_of_ble_eq_true rfl, Nat.le_of_ble_eq_true rfl⟩ rfl rfl (Nat.le_of_ble_eq_true rfl) dX11_meter_4 h (fun r2 S1 h => ?_)
  change G X _ S1 7 [(0, .ref (ad X 0)), (1, .int a1), (2, .int a2)] [.int r2]
  refine g_if_eq (pc := 7) (tgt := 21) C h dX11_meter_7 (by decide) (fun h => ?_) (fun h => ?_)
  · refine g_weak (lv1 := []) [] rfl ?_
    exact s_X11_meter_b21 C   S1 h
  · refine g_iload_n (pc := 10) C dX11_meter_10 rfl 2 rfl ?_
    refine g_iconst (pc := 11) (v := 1) C dX11_meter_11 (by decide) ?_
    refine g_sipush (pc := 12) (v := 960) C dX11_meter_12 (by decide) ?_
    refine g_callS (pc := 15) C (c_X11_isWithin (Xl X) (Xb X) a2 1 960 S1) gX11_meter_X11_isWithin rfl rfl rfl hd_X11_isWithin ⟨Nat.le_of_ble_eq_true rfl, Nat.le_of_ble_eq_true rfl⟩ rfl rfl (Nat.le_of_ble_eq_true rfl) dX11_meter_15 h (fun r4 S3 h => ?_)
    change G X _ S3 18 [(0, .ref (ad X 0)), (1, .int a1), (2, .int a2)] [.int r4]
    refine g_if_ne (pc := 18) (tgt := 25) C h dX11_meter_18 (by decide) (fun h => ?_) (fun h => ?_)
    · refine g_aload_n (pc := 25) C dX11_meter_25 rfl 0 rfl ?_
      refine g_get (pc := 26) C 0 (w_0 _ _) rfl 1 (Nat.le_of_ble_eq_true rfl) in_X11_X11_meter k16_X11_meter rfl dX11_meter_26 ?_
      refine g_iload_n (pc := 29) C dX11_meter_29 rfl 1 rfl ?_
      refine g_iload_n (pc := 30) C dX11_meter_30 rfl 2 rfl ?_
      refine g_callV (pc := 31) C 1 (c_X9_beat (Xl X) (Xb X) a1 a2 S3) gX11_meter_X9_beat rfl rfl rfl hd_X9_beat ⟨Nat.le_of_ble_eq_true rfl, Nat.le_of_ble_eq_true rfl⟩ (w_1 _ _) rfl rfl rfl (Nat.le_of_ble_eq_true rfl) dX11_meter_31 h (fun _u5 S5 h => ?_)
      change G X _ S5 34 [(0, .ref (ad X 0)), (1, .int a1), (2, .int a2)] []
      refine g_iconst (pc := 34) (v := 1) C dX11_meter_34 (by decide) ?_
      exact g_iret (pc := 35) C h dX11_meter_35
    · refine g_weak (lv1 := []) [] rfl ?_
      exact s_X11_meter_b21 C   S3 h
theorem c_X11_meter (l : Launch) (b : Bw) (a1 : Int32) (a2 : Int32) (S : St) : Ct l b yX11_meter wsX11_meter rmX11_meter [.ref (bad b 0), .int a1, .int a2] S mkI (f_X11_meter a1 a2 S) := Ct.of (by decide +kernel) rfl (Nat.le_of_ble_eq_true rfl) (fun X C hl hb r h => by
  subst hl; subst hb
  exact s_X11_meter_b0 C a1 a2 S h)
/-! StyleRows$Notes.add(IIIII)I -/
set_option maxRecDepth 100000 in
set_option maxHeartbeats 4000000 in
theorem s_X4_add_b0 {X : MC} (C : Cx X cX4_add RX4 wsX4_add 6 rmX4_add (some .int)) (a1 : Int32) (a2 : Int32) (a3 : Int32) (a4 : Int32) (a5 : Int32) (S : St) {r0 : Int32 × St} (h : f_X4_add_b0 a1 a2 a3 a4 a5 S = some r0) : G X (QM mkI X r0) S 0 [(0, .ref (ad X 2)), (1, .int a1), (2, .int a2), (3, .int a3), (4, .int a4), (5, .int a5)] [] := by
  unfold f_X4_add_b0 at h
  refine g_aload_n (pc := 0) C dX4_add_0 rfl 0 rfl ?_
  refine g_get (pc := 1) C 2 (w_2 _ _) rfl 5 (Nat.le_of_ble_eq_true rfl) in_X4_X4_add k27_X4_add rfl dX4_add_1 ?_
  refine g_bipush (pc := 4) (v := 48) C dX4_add_4 (by decide) ?_
  refine g_icmp_lt (pc := 6) (tgt := 13) C h dX4_add_6 (by decide) (fun h => ?_) (fun h => ?_)
  · refine g_aload_n (pc := 13) C dX4_add_13 rfl 0 rfl ?_
    refine g_get (pc := 14) C 2 (w_2 _ _) rfl 0 (Nat.le_of_ble_eq_true rfl) in_X4_X4_add k11_X4_add rfl dX4_add_14 ?_
    refine g_aload_n (pc := 17) C dX4_add_17 rfl 0 rfl ?_
    refine g_get (pc := 18) C 2 (w_2 _ _) rfl 5 (Nat.le_of_ble_eq_true rfl) in_X4_X4_add k27_X4_add rfl dX4_add_18 ?_
    refine g_iload_n (pc := 21) C dX4_add_21 rfl 1 rfl ?_
    refine g_iast (pc := 22) C 13 (w_13 _ _) (ws_13 _ _) h dX4_add_22 (fun S1 h => ?_)
    refine g_aload_n (pc := 23) C dX4_add_23 rfl 0 rfl ?_
    refine g_get (pc := 24) C 2 (w_2 _ _) rfl 1 (Nat.le_of_ble_eq_true rfl) in_X4_X4_add k15_X4_add rfl dX4_add_24 ?_
    refine g_aload_n (pc := 27) C dX4_add_27 rfl 0 rfl ?_
    refine g_get (pc := 28) C 2 (w_2 _ _) rfl 5 (Nat.le_of_ble_eq_true rfl) in_X4_X4_add k27_X4_add rfl dX4_add_28 ?_
    refine g_iload_n (pc := 31) C dX4_add_31 rfl 2 rfl ?_
    refine g_iast (pc := 32) C 14 (w_14 _ _) (ws_14 _ _) h dX4_add_32 (fun S2 h => ?_)
    refine g_aload_n (pc := 33) C dX4_add_33 rfl 0 rfl ?_
    refine g_get (pc := 34) C 2 (w_2 _ _) rfl 2 (Nat.le_of_ble_eq_true rfl) in_X4_X4_add k18_X4_add rfl dX4_add_34 ?_
    refine g_aload_n (pc := 37) C dX4_add_37 rfl 0 rfl ?_
    refine g_get (pc := 38) C 2 (w_2 _ _) rfl 5 (Nat.le_of_ble_eq_true rfl) in_X4_X4_add k27_X4_add rfl dX4_add_38 ?_
    refine g_iload_n (pc := 41) C dX4_add_41 rfl 3 rfl ?_
    refine g_iast (pc := 42) C 15 (w_15 _ _) (ws_15 _ _) h dX4_add_42 (fun S3 h => ?_)
    refine g_aload_n (pc := 43) C dX4_add_43 rfl 0 rfl ?_
    refine g_get (pc := 44) C 2 (w_2 _ _) rfl 3 (Nat.le_of_ble_eq_true rfl) in_X4_X4_add k21_X4_add rfl dX4_add_44 ?_
    refine g_aload_n (pc := 47) C dX4_add_47 rfl 0 rfl ?_
    refine g_get (pc := 48) C 2 (w_2 _ _) rfl 5 (Nat.le_of_ble_eq_true rfl) in_X4_X4_add k27_X4_add rfl dX4_add_48 ?_
    refine g_iload (pc := 51) C dX4_add_51 4 rfl ?_
    refine g_iast (pc := 53) C 16 (w_16 _ _) (ws_16 _ _) h dX4_add_53 (fun S4 h => ?_)
    refine g_aload_n (pc := 54) C dX4_add_54 rfl 0 rfl ?_
    refine g_get (pc := 55) C 2 (w_2 _ _) rfl 4 (Nat.le_of_ble_eq_true rfl) in_X4_X4_add k24_X4_add rfl dX4_add_55 ?_
    refine g_aload_n (pc := 58) C dX4_add_58 rfl 0 rfl ?_
    refine g_get (pc := 59) C 2 (w_2 _ _) rfl 5 (Nat.le_of_ble_eq_true rfl) in_X4_X4_add k27_X4_add rfl dX4_add_59 ?_
    refine g_iload (pc := 62) C dX4_add_62 5 rfl ?_
    refine g_iast (pc := 64) C 17 (w_17 _ _) (ws_17 _ _) h dX4_add_64 (fun S5 h => ?_)
    refine g_aload_n (pc := 65) C dX4_add_65 rfl 0 rfl ?_
    refine g_dup (pc := 66) C dX4_add_66 rfl ?_
    refine g_get (pc := 67) C 2 (w_2 _ _) rfl 5 (Nat.le_of_ble_eq_true rfl) in_X4_X4_add k27_X4_add rfl dX4_add_67 ?_
    refine g_iconst (pc := 70) (v := 1) C dX4_add_70 (by decide) ?_
    refine g_iadd (pc := 71) C dX4_add_71 ?_
    refine g_put (pc := 72) C 2 (w_2 _ _) rfl 5 (Nat.le_of_ble_eq_true rfl) in_X4_X4_add tyX4_ok nmX4 k27_X4_add rfl rfl rfl (Nat.le_of_ble_eq_true rfl) (ws_2_5 _ _ _) dX4_add_72 h (fun S6 h => ?_)
    refine g_aload_n (pc := 75) C dX4_add_75 rfl 0 rfl ?_
    refine g_get (pc := 76) C 2 (w_2 _ _) rfl 5 (Nat.le_of_ble_eq_true rfl) in_X4_X4_add k27_X4_add rfl dX4_add_76 ?_
    refine g_iconst (pc := 79) (v := 1) C dX4_add_79 (by decide) ?_
    refine g_isub (pc := 80) C dX4_add_80 ?_
    exact g_iret (pc := 81) C h dX4_add_81
  · refine g_sipush (pc := 9) (v := (-1004)) C dX4_add_9 (by decide) ?_
    exact g_iret (pc := 12) C h dX4_add_12
theorem c_X4_add (l : Launch) (b : Bw) (a1 : Int32) (a2 : Int32) (a3 : Int32) (a4 : Int32) (a5 : Int32) (S : St) : Ct l b yX4_add wsX4_add rmX4_add [.ref (bad b 2), .int a1, .int a2, .int a3, .int a4, .int a5] S mkI (f_X4_add a1 a2 a3 a4 a5 S) := Ct.of (by decide +kernel) rfl (Nat.le_of_ble_eq_true rfl) (fun X C hl hb r h => by
  subst hl; subst hb
  exact s_X4_add_b0 C a1 a2 a3 a4 a5 S h)
/-! StyleRows.note(IIIII)I -/
set_option maxRecDepth 100000 in
set_option maxHeartbeats 4000000 in
theorem s_X11_note_b29 {X : MC} (C : Cx X cX11_note RX11 wsX11_note 6 rmX11_note (some .int)) (S : St) {r0 : Int32 × St} (h : f_X11_note_b29 S = some r0) : G X (QM mkI X r0) S 29 [] [] := by
  unfold f_X11_note_b29 at h
  refine g_sipush (pc := 29) (v := (-1002)) C dX11_note_29 (by decide) ?_
  exact g_iret (pc := 32) C h dX11_note_32
set_option maxRecDepth 100000 in
set_option maxHeartbeats 4000000 in
theorem s_X11_note_b56 {X : MC} (C : Cx X cX11_note RX11 wsX11_note 6 rmX11_note (some .int)) (S : St) {r0 : Int32 × St} (h : f_X11_note_b56 S = some r0) : G X (QM mkI X r0) S 56 [] [] := by
  unfold f_X11_note_b56 at h
  refine g_sipush (pc := 56) (v := (-1002)) C dX11_note_56 (by decide) ?_
  exact g_iret (pc := 59) C h dX11_note_59
set_option maxRecDepth 100000 in
set_option maxHeartbeats 4000000 in
theorem s_X11_note_b0 {X : MC} (C : Cx X cX11_note RX11 wsX11_note 6 rmX11_note (some .int)) (a1 : Int32) (a2 : Int32) (a3 : Int32) (a4 : Int32) (a5 : Int32) (S : St) {r0 : Int32 × St} (h : f_X11_note_b0 a1 a2 a3 a4 a5 S = some r0) : G X (QM mkI X r0) S 0 [(0, .ref (ad X 0)), (1, .int a1), (2, .int a2), (3, .int a3), (4, .int a4), (5, .int a5)] [] := by
  unfold f_X11_note_b0 at h
  refine g_iload_n (pc := 0) C dX11_note_0 rfl 1 rfl ?_
  refine g_callS (pc := 1) C (c_X11_isVoice (Xl X) (Xb X) a1 S) gX11_note_X11_isVoice rfl rfl rfl hd_X11_isVoice ⟨Nat.le_of_ble_eq_true rfl, Nat.le_of_ble_eq_true rfl⟩ rfl rfl (Nat.le_of_ble_eq_true rfl) dX11_note_1 h (fun r2 S1 h => ?_)
  change G X _ S1 4 [(0, .ref (ad X 0)), (1, .int a1), (2, .int a2), (3, .int a3), (4, .int a4), (5, .int a5)] [.int r2]
  refine g_if_eq (pc := 4) (tgt := 29) C h dX11_note_4 (by decide) (fun h => ?_) (fun h => ?_)
  · refine g_weak (lv1 := []) [] rfl ?_
    exact s_X11_note_b29 C   S1 h
  · refine g_iload_n (pc := 7) C dX11_note_7 rfl 2 rfl ?_
    refine g_iconst (pc := 8) (v := 0) C dX11_note_8 (by decide) ?_
    refine g_sipush (pc := 9) (v := 9600) C dX11_note_9 (by decide) ?_
    refine g_callS (pc := 12) C (c_X11_isWithin (Xl X) (Xb X) a2 0 9600 S1) gX11_note_X11_isWithin rfl rfl rfl hd_X11_isWithin ⟨Nat.le_of_ble_eq_true rfl, Nat.le_of_ble_eq_true rfl⟩ rfl rfl (Nat.le_of_ble_eq_true rfl) dX11_note_12 h (fun r4 S3 h => ?_)
    change G X _ S3 15 [(0, .ref (ad X 0)), (1, .int a1), (2, .int a2), (3, .int a3), (4, .int a4), (5, .int a5)] [.int r4]
    refine g_if_eq (pc := 15) (tgt := 29) C h dX11_note_15 (by decide) (fun h => ?_) (fun h => ?_)
    · refine g_weak (lv1 := []) [] rfl ?_
      exact s_X11_note_b29 C   S3 h
    · refine g_iload_n (pc := 18) C dX11_note_18 rfl 3 rfl ?_
      refine g_iconst (pc := 19) (v := 1) C dX11_note_19 (by decide) ?_
      refine g_sipush (pc := 20) (v := 960) C dX11_note_20 (by decide) ?_
      refine g_callS (pc := 23) C (c_X11_isWithin (Xl X) (Xb X) a3 1 960 S3) gX11_note_X11_isWithin rfl rfl rfl hd_X11_isWithin ⟨Nat.le_of_ble_eq_true rfl, Nat.le_of_ble_eq_true rfl⟩ rfl rfl (Nat.le_of_ble_eq_true rfl) dX11_note_23 h (fun r6 S5 h => ?_)
      change G X _ S5 26 [(0, .ref (ad X 0)), (1, .int a1), (2, .int a2), (3, .int a3), (4, .int a4), (5, .int a5)] [.int r6]
      refine g_if_ne (pc := 26) (tgt := 33) C h dX11_note_26 (by decide) (fun h => ?_) (fun h => ?_)
      · refine g_iload (pc := 33) C dX11_note_33 4 rfl ?_
        refine g_bipush (pc := 35) (v := 12) C dX11_note_35 (by decide) ?_
        refine g_bipush (pc := 37) (v := 115) C dX11_note_37 (by decide) ?_
        refine g_callS (pc := 39) C (c_X11_isWithin (Xl X) (Xb X) a4 12 115 S5) gX11_note_X11_isWithin rfl rfl rfl hd_X11_isWithin ⟨Nat.le_of_ble_eq_true rfl, Nat.le_of_ble_eq_true rfl⟩ rfl rfl (Nat.le_of_ble_eq_true rfl) dX11_note_39 h (fun r8 S7 h => ?_)
        change G X _ S7 42 [(0, .ref (ad X 0)), (1, .int a1), (2, .int a2), (3, .int a3), (4, .int a4), (5, .int a5)] [.int r8]
        refine g_if_eq (pc := 42) (tgt := 56) C h dX11_note_42 (by decide) (fun h => ?_) (fun h => ?_)
        · refine g_weak (lv1 := []) [] rfl ?_
          exact s_X11_note_b56 C   S7 h
        · refine g_iload (pc := 45) C dX11_note_45 5 rfl ?_
          refine g_iconst (pc := 47) (v := 0) C dX11_note_47 (by decide) ?_
          refine g_bipush (pc := 48) (v := 127) C dX11_note_48 (by decide) ?_
          refine g_callS (pc := 50) C (c_X11_isWithin (Xl X) (Xb X) a5 0 127 S7) gX11_note_X11_isWithin rfl rfl rfl hd_X11_isWithin ⟨Nat.le_of_ble_eq_true rfl, Nat.le_of_ble_eq_true rfl⟩ rfl rfl (Nat.le_of_ble_eq_true rfl) dX11_note_50 h (fun r10 S9 h => ?_)
          change G X _ S9 53 [(0, .ref (ad X 0)), (1, .int a1), (2, .int a2), (3, .int a3), (4, .int a4), (5, .int a5)] [.int r10]
          refine g_if_ne (pc := 53) (tgt := 60) C h dX11_note_53 (by decide) (fun h => ?_) (fun h => ?_)
          · refine g_aload_n (pc := 60) C dX11_note_60 rfl 0 rfl ?_
            refine g_get (pc := 61) C 0 (w_0 _ _) rfl 1 (Nat.le_of_ble_eq_true rfl) in_X11_X11_note k16_X11_note rfl dX11_note_61 ?_
            refine g_getN (pc := 64) C 1 (w_1 _ _) rfl 0 (Nat.le_of_ble_eq_true rfl) in_X9_X11_note nw_X11_72 rfl dX11_note_64 ?_
            refine g_iload_n (pc := 67) C dX11_note_67 rfl 1 rfl ?_
            refine g_iload_n (pc := 68) C dX11_note_68 rfl 2 rfl ?_
            refine g_iload_n (pc := 69) C dX11_note_69 rfl 3 rfl ?_
            refine g_iload (pc := 70) C dX11_note_70 4 rfl ?_
            refine g_iload (pc := 72) C dX11_note_72 5 rfl ?_
            refine g_callV (pc := 74) C 2 (c_X4_add (Xl X) (Xb X) a1 a2 a3 a4 a5 S9) gX11_note_X4_add rfl rfl rfl hd_X4_add ⟨Nat.le_of_ble_eq_true rfl, Nat.le_of_ble_eq_true rfl⟩ (w_2 _ _) rfl rfl rfl (Nat.le_of_ble_eq_true rfl) dX11_note_74 h (fun r12 S11 h => ?_)
            change G X _ S11 77 [(0, .ref (ad X 0)), (1, .int a1), (2, .int a2), (3, .int a3), (4, .int a4), (5, .int a5)] [.int r12]
            exact g_iret (pc := 77) C h dX11_note_77
          · refine g_weak (lv1 := []) [] rfl ?_
            exact s_X11_note_b56 C   S9 h
      · refine g_weak (lv1 := []) [] rfl ?_
        exact s_X11_note_b29 C   S5 h
theorem c_X11_note (l : Launch) (b : Bw) (a1 : Int32) (a2 : Int32) (a3 : Int32) (a4 : Int32) (a5 : Int32) (S : St) : Ct l b yX11_note wsX11_note rmX11_note [.ref (bad b 0), .int a1, .int a2, .int a3, .int a4, .int a5] S mkI (f_X11_note a1 a2 a3 a4 a5 S) := Ct.of (by decide +kernel) rfl (Nat.le_of_ble_eq_true rfl) (fun X C hl hb r h => by
  subst hl; subst hb
  exact s_X11_note_b0 C a1 a2 a3 a4 a5 S h)
/-! StyleRows$Events.clear()V -/
set_option maxRecDepth 100000 in
set_option maxHeartbeats 4000000 in
theorem s_X1_clear_b0 {X : MC} (C : Cx X cX1_clear RX1 wsX1_clear 1 rmX1_clear none) (S : St) {r0 : Unit × St} (h : f_X1_clear_b0 S = some r0) : G X (QM mkV X r0) S 0 [(0, .ref (ad X 9))] [] := by
  unfold f_X1_clear_b0 at h
  refine g_aload_n (pc := 0) C dX1_clear_0 rfl 0 rfl ?_
  refine g_iconst (pc := 1) (v := 0) C dX1_clear_1 (by decide) ?_
  refine g_put (pc := 2) C 9 (w_9 _ _) rfl 1 (Nat.le_of_ble_eq_true rfl) in_X1_X1_clear tyX1_ok nmX1 k16_X1_clear rfl rfl rfl (Nat.le_of_ble_eq_true rfl) (ws_9_1 _ _ _) dX1_clear_2 h (fun S1 h => ?_)
  refine g_aload_n (pc := 5) C dX1_clear_5 rfl 0 rfl ?_
  refine g_iconst (pc := 6) (v := 0) C dX1_clear_6 (by decide) ?_
  refine g_put (pc := 7) C 9 (w_9 _ _) rfl 2 (Nat.le_of_ble_eq_true rfl) in_X1_X1_clear tyX1_ok nmX1 k20_X1_clear rfl rfl rfl (Nat.le_of_ble_eq_true rfl) (ws_9_2 _ _ _) dX1_clear_7 h (fun S2 h => ?_)
  exact g_vret (pc := 10) C h dX1_clear_10
theorem c_X1_clear (l : Launch) (b : Bw) (S : St) : Ct l b yX1_clear wsX1_clear rmX1_clear [.ref (bad b 9)] S mkV (f_X1_clear S) := Ct.of (by decide +kernel) rfl (Nat.le_of_ble_eq_true rfl) (fun X C hl hb r h => by
  subst hl; subst hb
  exact s_X1_clear_b0 C S h)
/-! StyleRows$Performer.takeNote(LStyleRows$Notes;I)V -/
set_option maxRecDepth 100000 in
set_option maxHeartbeats 4000000 in
theorem s_X6_takeNote_b0 {X : MC} (C : Cx X cX6_takeNote RX6 wsX6_takeNote 3 rmX6_takeNote none) (a2 : Int32) (S : St) {r0 : Unit × St} (h : f_X6_takeNote_b0 a2 S = some r0) : G X (QM mkV X r0) S 0 [(0, .ref (ad X 8)), (1, .ref (ad X 2)), (2, .int a2)] [] := by
  unfold f_X6_takeNote_b0 at h
  refine g_aload_n (pc := 0) C dX6_takeNote_0 rfl 0 rfl ?_
  refine g_iload_n (pc := 1) C dX6_takeNote_1 rfl 2 rfl ?_
  refine g_put (pc := 2) C 8 (w_8 _ _) rfl 1 (Nat.le_of_ble_eq_true rfl) in_X6_X6_takeNote tyX6_ok nmX6 k71_X6_takeNote rfl rfl rfl (Nat.le_of_ble_eq_true rfl) (ws_8_1 _ _ _) dX6_takeNote_2 h (fun S1 h => ?_)
  refine g_aload_n (pc := 5) C dX6_takeNote_5 rfl 0 rfl ?_
  refine g_aload_n (pc := 6) C dX6_takeNote_6 rfl 1 rfl ?_
  refine g_getN (pc := 7) C 2 (w_2 _ _) rfl 0 (Nat.le_of_ble_eq_true rfl) in_X4_X6_takeNote nw_X6_74 rfl dX6_takeNote_7 ?_
  refine g_iload_n (pc := 10) C dX6_takeNote_10 rfl 2 rfl ?_
  refine g_iald (pc := 11) C 13 (w_13 _ _) h dX6_takeNote_11 (fun h => ?_)
  refine g_put (pc := 12) C 8 (w_8 _ _) rfl 2 (Nat.le_of_ble_eq_true rfl) in_X6_X6_takeNote tyX6_ok nmX6 k77_X6_takeNote rfl rfl rfl (Nat.le_of_ble_eq_true rfl) (ws_8_2 _ _ _) dX6_takeNote_12 h (fun S2 h => ?_)
  refine g_aload_n (pc := 15) C dX6_takeNote_15 rfl 0 rfl ?_
  refine g_aload_n (pc := 16) C dX6_takeNote_16 rfl 1 rfl ?_
  refine g_getN (pc := 17) C 2 (w_2 _ _) rfl 3 (Nat.le_of_ble_eq_true rfl) in_X4_X6_takeNote nw_X6_80 rfl dX6_takeNote_17 ?_
  refine g_iload_n (pc := 20) C dX6_takeNote_20 rfl 2 rfl ?_
  refine g_iald (pc := 21) C 16 (w_16 _ _) h dX6_takeNote_21 (fun h => ?_)
  refine g_put (pc := 22) C 8 (w_8 _ _) rfl 3 (Nat.le_of_ble_eq_true rfl) in_X6_X6_takeNote tyX6_ok nmX6 k83_X6_takeNote rfl rfl rfl (Nat.le_of_ble_eq_true rfl) (ws_8_3 _ _ _) dX6_takeNote_22 h (fun S3 h => ?_)
  refine g_aload_n (pc := 25) C dX6_takeNote_25 rfl 0 rfl ?_
  refine g_aload_n (pc := 26) C dX6_takeNote_26 rfl 1 rfl ?_
  refine g_getN (pc := 27) C 2 (w_2 _ _) rfl 4 (Nat.le_of_ble_eq_true rfl) in_X4_X6_takeNote nw_X6_86 rfl dX6_takeNote_27 ?_
  refine g_iload_n (pc := 30) C dX6_takeNote_30 rfl 2 rfl ?_
  refine g_iald (pc := 31) C 17 (w_17 _ _) h dX6_takeNote_31 (fun h => ?_)
  refine g_put (pc := 32) C 8 (w_8 _ _) rfl 4 (Nat.le_of_ble_eq_true rfl) in_X6_X6_takeNote tyX6_ok nmX6 k89_X6_takeNote rfl rfl rfl (Nat.le_of_ble_eq_true rfl) (ws_8_4 _ _ _) dX6_takeNote_32 h (fun S4 h => ?_)
  exact g_vret (pc := 35) C h dX6_takeNote_35
theorem c_X6_takeNote (l : Launch) (b : Bw) (a2 : Int32) (S : St) : Ct l b yX6_takeNote wsX6_takeNote rmX6_takeNote [.ref (bad b 8), .ref (bad b 2), .int a2] S mkV (f_X6_takeNote a2 S) := Ct.of (by decide +kernel) rfl (Nat.le_of_ble_eq_true rfl) (fun X C hl hb r h => by
  subst hl; subst hb
  exact s_X6_takeNote_b0 C a2 S h)
/-! StyleRows$Performer.isMarked(I)Z -/
set_option maxRecDepth 100000 in
set_option maxHeartbeats 4000000 in
theorem s_X6_isMarked_b14 {X : MC} (C : Cx X cX6_isMarked RX6 wsX6_isMarked 2 rmX6_isMarked (some .boolean)) (w0 : Int32) (S : St) {r0 : Int32 × St} (h : f_X6_isMarked_b14 w0 S = some r0) : G X (QM mkI X r0) S 14 [] [.int w0] := by
  unfold f_X6_isMarked_b14 at h
  exact g_zret (pc := 14) C h dX6_isMarked_14
set_option maxRecDepth 100000 in
set_option maxHeartbeats 4000000 in
theorem s_X6_isMarked_b0 {X : MC} (C : Cx X cX6_isMarked RX6 wsX6_isMarked 2 rmX6_isMarked (some .boolean)) (a1 : Int32) (S : St) {r0 : Int32 × St} (h : f_X6_isMarked_b0 a1 S = some r0) : G X (QM mkI X r0) S 0 [(0, .ref (ad X 8)), (1, .int a1)] [] := by
  unfold f_X6_isMarked_b0 at h
  refine g_aload_n (pc := 0) C dX6_isMarked_0 rfl 0 rfl ?_
  refine g_get (pc := 1) C 8 (w_8 _ _) rfl 4 (Nat.le_of_ble_eq_true rfl) in_X6_X6_isMarked k89_X6_isMarked rfl dX6_isMarked_1 ?_
  refine g_iload_n (pc := 4) C dX6_isMarked_4 rfl 1 rfl ?_
  refine g_iand (pc := 5) C dX6_isMarked_5 ?_
  refine g_if_eq (pc := 6) (tgt := 13) C h dX6_isMarked_6 (by decide) (fun h => ?_) (fun h => ?_)
  · refine g_iconst (pc := 13) (v := 0) C dX6_isMarked_13 (by decide) ?_
    refine g_weak (lv1 := []) [] rfl ?_
    exact s_X6_isMarked_b14 C 0  S h
  · refine g_iconst (pc := 9) (v := 1) C dX6_isMarked_9 (by decide) ?_
    refine g_goto (pc := 10) (tgt := 14) C dX6_isMarked_10 (by decide) ?_
    refine g_weak (lv1 := []) [] rfl ?_
    exact s_X6_isMarked_b14 C 1  S h
theorem c_X6_isMarked (l : Launch) (b : Bw) (a1 : Int32) (S : St) : Ct l b yX6_isMarked wsX6_isMarked rmX6_isMarked [.ref (bad b 8), .int a1] S mkI (f_X6_isMarked a1 S) := Ct.of (by decide +kernel) rfl (Nat.le_of_ble_eq_true rfl) (fun X C hl hb r h => by
  subst hl; subst hb
  exact s_X6_isMarked_b0 C a1 S h)
/-! StyleRows$Rules.countingFor(II)I -/
set_option maxRecDepth 100000 in
set_option maxHeartbeats 4000000 in
theorem s_X8_countingFor_b0 {X : MC} (C : Cx X cX8_countingFor RX8 wsX8_countingFor 3 rmX8_countingFor (some .int)) (a1 : Int32) (a2 : Int32) (S : St) {r0 : Int32 × St} (h : f_X8_countingFor_b0 a1 a2 S = some r0) : G X (QM mkI X r0) S 0 [(0, .ref (ad X 6)), (1, .int a1), (2, .int a2)] [] := by
  unfold f_X8_countingFor_b0 at h
  refine g_aload_n (pc := 0) C dX8_countingFor_0 rfl 0 rfl ?_
  refine g_get (pc := 1) C 6 (w_6 _ _) rfl 1 (Nat.le_of_ble_eq_true rfl) in_X8_X8_countingFor k18_X8_countingFor rfl dX8_countingFor_1 ?_
  refine g_iload_n (pc := 4) C dX8_countingFor_4 rfl 1 rfl ?_
  refine g_bipush (pc := 5) (v := 13) C dX8_countingFor_5 (by decide) ?_
  refine g_imul (pc := 7) C dX8_countingFor_7 ?_
  refine g_iload_n (pc := 8) C dX8_countingFor_8 rfl 2 rfl ?_
  refine g_iadd (pc := 9) C dX8_countingFor_9 ?_
  refine g_iald (pc := 10) C 30 (w_30 _ _) h dX8_countingFor_10 (fun h => ?_)
  exact g_iret (pc := 11) C h dX8_countingFor_11
theorem c_X8_countingFor (l : Launch) (b : Bw) (a1 : Int32) (a2 : Int32) (S : St) : Ct l b yX8_countingFor wsX8_countingFor rmX8_countingFor [.ref (bad b 6), .int a1, .int a2] S mkI (f_X8_countingFor a1 a2 S) := Ct.of (by decide +kernel) rfl (Nat.le_of_ble_eq_true rfl) (fun X C hl hb r h => by
  subst hl; subst hb
  exact s_X8_countingFor_b0 C a1 a2 S h)
/-! StyleRows$Rules.numberFor(II)I -/
set_option maxRecDepth 100000 in
set_option maxHeartbeats 4000000 in
theorem s_X8_numberFor_b28 {X : MC} (C : Cx X cX8_numberFor RX8 wsX8_numberFor 4 rmX8_numberFor (some .int)) (w0 : Int32) (S : St) {r0 : Int32 × St} (h : f_X8_numberFor_b28 w0 S = some r0) : G X (QM mkI X r0) S 28 [] [.int w0] := by
  unfold f_X8_numberFor_b28 at h
  exact g_iret (pc := 28) C h dX8_numberFor_28
set_option maxRecDepth 100000 in
set_option maxHeartbeats 4000000 in
theorem s_X8_numberFor_b0 {X : MC} (C : Cx X cX8_numberFor RX8 wsX8_numberFor 4 rmX8_numberFor (some .int)) (a1 : Int32) (a2 : Int32) (S : St) {r0 : Int32 × St} (h : f_X8_numberFor_b0 a1 a2 S = some r0) : G X (QM mkI X r0) S 0 [(0, .ref (ad X 6)), (1, .int a1), (2, .int a2)] [] := by
  unfold f_X8_numberFor_b0 at h
  refine g_aload_n (pc := 0) C dX8_numberFor_0 rfl 0 rfl ?_
  refine g_iload_n (pc := 1) C dX8_numberFor_1 rfl 1 rfl ?_
  refine g_iload_n (pc := 2) C dX8_numberFor_2 rfl 2 rfl ?_
  refine g_callV (pc := 3) C 6 (c_X8_countingFor (Xl X) (Xb X) a1 a2 S) gX8_numberFor_X8_countingFor rfl rfl rfl hd_X8_countingFor ⟨Nat.le_of_ble_eq_true rfl, Nat.le_of_ble_eq_true rfl⟩ (w_6 _ _) rfl rfl rfl (Nat.le_of_ble_eq_true rfl) dX8_numberFor_3 h (fun r2 S1 h => ?_)
  change G X _ S1 6 [(0, .ref (ad X 6)), (1, .int a1), (2, .int a2)] [.int r2]
  refine g_istore_n (pc := 6) C [(3, .int r2), (0, .ref (ad X 6)), (1, .int a1), (2, .int a2)] dX8_numberFor_6 rfl (Nat.le_of_ble_eq_true rfl) rfl ?_
  refine g_iload_n (pc := 7) C dX8_numberFor_7 rfl 0 rfl ?_
  refine g_iconst (pc := 8) (v := (-1)) C dX8_numberFor_8 (by decide) ?_
  refine g_icmp_ne (pc := 9) (tgt := 20) C h dX8_numberFor_9 (by decide) (fun h => ?_) (fun h => ?_)
  · refine g_aload_n (pc := 20) C dX8_numberFor_20 rfl 1 rfl ?_
    refine g_get (pc := 21) C 6 (w_6 _ _) rfl 0 (Nat.le_of_ble_eq_true rfl) in_X8_X8_numberFor k13_X8_numberFor rfl dX8_numberFor_21 ?_
    refine g_iconst (pc := 24) (v := 2) C dX8_numberFor_24 (by decide) ?_
    refine g_aaldc (pc := 25) (i := 2) C 25 28 (w_25 _ _) rfl rfl dX8_numberFor_25 ?_
    refine g_iload_n (pc := 26) C dX8_numberFor_26 rfl 0 rfl ?_
    refine g_iald (pc := 27) C 28 (w_28 _ _) h dX8_numberFor_27 (fun h => ?_)
    refine g_weak (lv1 := []) [] rfl ?_
    exact s_X8_numberFor_b28 C (rd S1 28 r2)  S1 h
  · refine g_getsN (pc := 12) C 0 (Nat.le_of_ble_eq_true rfl) nw_X8_41 dX8_numberFor_12 ?_
    refine g_iload_n (pc := 15) C dX8_numberFor_15 rfl 3 rfl ?_
    refine g_tld (pc := 16) C 0 (Nat.le_of_ble_eq_true rfl) h dX8_numberFor_16 (fun h => ?_)
    refine g_goto (pc := 17) (tgt := 28) C dX8_numberFor_17 (by decide) ?_
    refine g_weak (lv1 := []) [] rfl ?_
    exact s_X8_numberFor_b28 C (tbr 0 a2)  S1 h
theorem c_X8_numberFor (l : Launch) (b : Bw) (a1 : Int32) (a2 : Int32) (S : St) : Ct l b yX8_numberFor wsX8_numberFor rmX8_numberFor [.ref (bad b 6), .int a1, .int a2] S mkI (f_X8_numberFor a1 a2 S) := Ct.of (by decide +kernel) rfl (Nat.le_of_ble_eq_true rfl) (fun X C hl hb r h => by
  subst hl; subst hb
  exact s_X8_numberFor_b0 C a1 a2 S h)
/-! StyleRows$Performer.longOf(ILStyleRows$Rules;)I -/
set_option maxRecDepth 100000 in
set_option maxHeartbeats 4000000 in
theorem s_X6_longOf_b25 {X : MC} (C : Cx X cX6_longOf RX6 wsX6_longOf 6 rmX6_longOf (some .int)) (v1 : Int32) (w0 : Int32) (S : St) {r0 : Int32 × St} (h : f_X6_longOf_b25 v1 w0 S = some r0) : G X (QM mkI X r0) S 25 [(0, .ref (ad X 8)), (1, .int v1), (2, .ref (ad X 6))] [.int w0] := by
  unfold f_X6_longOf_b25 at h
  refine g_istore_n (pc := 25) C [(3, .int w0), (0, .ref (ad X 8)), (1, .int v1), (2, .ref (ad X 6))] dX6_longOf_25 rfl (Nat.le_of_ble_eq_true rfl) rfl ?_
  refine g_aload_n (pc := 26) C dX6_longOf_26 rfl 3 rfl ?_
  refine g_aload_n (pc := 27) C dX6_longOf_27 rfl 1 rfl ?_
  refine g_get (pc := 28) C 8 (w_8 _ _) rfl 2 (Nat.le_of_ble_eq_true rfl) in_X6_X6_longOf k77_X6_longOf rfl dX6_longOf_28 ?_
  refine g_iload_n (pc := 31) C dX6_longOf_31 rfl 0 rfl ?_
  refine g_callV (pc := 32) C 6 (c_X8_numberFor (Xl X) (Xb X) (gI S 13) w0 S) gX6_longOf_X8_numberFor rfl rfl rfl hd_X8_numberFor ⟨Nat.le_of_ble_eq_true rfl, Nat.le_of_ble_eq_true rfl⟩ (w_6 _ _) rfl rfl rfl (Nat.le_of_ble_eq_true rfl) dX6_longOf_32 h (fun r6 S5 h => ?_)
  change G X _ S5 35 [(3, .int w0), (0, .ref (ad X 8)), (1, .int v1), (2, .ref (ad X 6))] [.int r6]
  refine g_istore (pc := 35) C [(4, .int r6), (3, .int w0), (0, .ref (ad X 8)), (1, .int v1), (2, .ref (ad X 6))] dX6_longOf_35 (Nat.le_of_ble_eq_true rfl) rfl ?_
  refine g_aload_n (pc := 37) C dX6_longOf_37 rfl 4 rfl ?_
  refine g_aload_n (pc := 38) C dX6_longOf_38 rfl 2 rfl ?_
  refine g_get (pc := 39) C 8 (w_8 _ _) rfl 2 (Nat.le_of_ble_eq_true rfl) in_X6_X6_longOf k77_X6_longOf rfl dX6_longOf_39 ?_
  refine g_iconst (pc := 42) (v := 3) C dX6_longOf_42 (by decide) ?_
  refine g_callV (pc := 43) C 6 (c_X8_numberFor (Xl X) (Xb X) (gI S5 13) 3 S5) gX6_longOf_X8_numberFor rfl rfl rfl hd_X8_numberFor ⟨Nat.le_of_ble_eq_true rfl, Nat.le_of_ble_eq_true rfl⟩ (w_6 _ _) rfl rfl rfl (Nat.le_of_ble_eq_true rfl) dX6_longOf_43 h (fun r8 S7 h => ?_)
  change G X _ S7 46 [(4, .int r6), (3, .int w0), (0, .ref (ad X 8)), (1, .int v1), (2, .ref (ad X 6))] [.int r8]
  refine g_iload_n (pc := 46) C dX6_longOf_46 rfl 3 rfl ?_
  refine g_mmin (pc := 47) C k103_X6_longOf kstmin_X6_longOf kini_X6_longOf kcomin_X6_longOf (Nat.le_of_ble_eq_true rfl) (Nat.le_of_ble_eq_true rfl) dX6_longOf_47 ?_
  refine g_leti h (fun x9 h => ?_)
  refine g_istore (pc := 50) C [(5, .int x9), (4, .int r6), (3, .int w0), (0, .ref (ad X 8)), (1, .int v1), (2, .ref (ad X 6))] dX6_longOf_50 (Nat.le_of_ble_eq_true rfl) rfl ?_
  refine g_iload (pc := 52) C dX6_longOf_52 0 rfl ?_
  refine g_iload_n (pc := 54) C dX6_longOf_54 rfl 4 rfl ?_
  refine g_iload (pc := 55) C dX6_longOf_55 1 rfl ?_
  refine g_imul (pc := 57) C dX6_longOf_57 ?_
  refine g_bipush (pc := 58) (v := 100) C dX6_longOf_58 (by decide) ?_
  refine g_idiv (pc := 60) C h dX6_longOf_60 (fun h => ?_)
  refine g_mmax (pc := 61) C k108_X6_longOf kstmax_X6_longOf kini_X6_longOf kcomax_X6_longOf (Nat.le_of_ble_eq_true rfl) (Nat.le_of_ble_eq_true rfl) dX6_longOf_61 ?_
  exact g_iret (pc := 64) C h dX6_longOf_64
set_option maxRecDepth 100000 in
set_option maxHeartbeats 4000000 in
theorem s_X6_longOf_b0 {X : MC} (C : Cx X cX6_longOf RX6 wsX6_longOf 6 rmX6_longOf (some .int)) (a1 : Int32) (S : St) {r0 : Int32 × St} (h : f_X6_longOf_b0 a1 S = some r0) : G X (QM mkI X r0) S 0 [(0, .ref (ad X 8)), (1, .int a1), (2, .ref (ad X 6))] [] := by
  unfold f_X6_longOf_b0 at h
  refine g_aload_n (pc := 0) C dX6_longOf_0 rfl 0 rfl ?_
  refine g_iconst (pc := 1) (v := 1) C dX6_longOf_1 (by decide) ?_
  refine g_callV (pc := 2) C 8 (c_X6_isMarked (Xl X) (Xb X) 1 S) gX6_longOf_X6_isMarked rfl rfl rfl hd_X6_isMarked ⟨Nat.le_of_ble_eq_true rfl, Nat.le_of_ble_eq_true rfl⟩ (w_8 _ _) rfl rfl rfl (Nat.le_of_ble_eq_true rfl) dX6_longOf_2 h (fun r2 S1 h => ?_)
  change G X _ S1 5 [(0, .ref (ad X 8)), (1, .int a1), (2, .ref (ad X 6))] [.int r2]
  refine g_if_eq (pc := 5) (tgt := 12) C h dX6_longOf_5 (by decide) (fun h => ?_) (fun h => ?_)
  · refine g_aload_n (pc := 12) C dX6_longOf_12 rfl 0 rfl ?_
    refine g_iconst (pc := 13) (v := 2) C dX6_longOf_13 (by decide) ?_
    refine g_callV (pc := 14) C 8 (c_X6_isMarked (Xl X) (Xb X) 2 S1) gX6_longOf_X6_isMarked rfl rfl rfl hd_X6_isMarked ⟨Nat.le_of_ble_eq_true rfl, Nat.le_of_ble_eq_true rfl⟩ (w_8 _ _) rfl rfl rfl (Nat.le_of_ble_eq_true rfl) dX6_longOf_14 h (fun r4 S3 h => ?_)
    change G X _ S3 17 [(0, .ref (ad X 8)), (1, .int a1), (2, .ref (ad X 6))] [.int r4]
    refine g_if_eq (pc := 17) (tgt := 24) C h dX6_longOf_17 (by decide) (fun h => ?_) (fun h => ?_)
    · refine g_iconst (pc := 24) (v := 1) C dX6_longOf_24 (by decide) ?_
      refine g_weak (lv1 := [(0, .ref (ad X 8)), (1, .int a1), (2, .ref (ad X 6))]) [0, 1, 2] rfl ?_
      exact s_X6_longOf_b25 C a1 1  S3 h
    · refine g_iconst (pc := 20) (v := 2) C dX6_longOf_20 (by decide) ?_
      refine g_goto (pc := 21) (tgt := 25) C dX6_longOf_21 (by decide) ?_
      refine g_weak (lv1 := [(0, .ref (ad X 8)), (1, .int a1), (2, .ref (ad X 6))]) [0, 1, 2] rfl ?_
      exact s_X6_longOf_b25 C a1 2  S3 h
  · refine g_iconst (pc := 8) (v := 0) C dX6_longOf_8 (by decide) ?_
    refine g_goto (pc := 9) (tgt := 25) C dX6_longOf_9 (by decide) ?_
    refine g_weak (lv1 := [(0, .ref (ad X 8)), (1, .int a1), (2, .ref (ad X 6))]) [0, 1, 2] rfl ?_
    exact s_X6_longOf_b25 C a1 0  S1 h
theorem c_X6_longOf (l : Launch) (b : Bw) (a1 : Int32) (S : St) : Ct l b yX6_longOf wsX6_longOf rmX6_longOf [.ref (bad b 8), .int a1, .ref (bad b 6)] S mkI (f_X6_longOf a1 S) := Ct.of (by decide +kernel) rfl (Nat.le_of_ble_eq_true rfl) (fun X C hl hb r h => by
  subst hl; subst hb
  exact s_X6_longOf_b0 C a1 S h)
/-! StyleRows$Score.isMultiple(II)Z -/
set_option maxRecDepth 100000 in
set_option maxHeartbeats 4000000 in
theorem s_X9_isMultiple_b15 {X : MC} (C : Cx X cX9_isMultiple RX9 wsX9_isMultiple 2 rmX9_isMultiple (some .boolean)) (w0 : Int32) (S : St) {r0 : Int32 × St} (h : f_X9_isMultiple_b15 w0 S = some r0) : G X (QM mkI X r0) S 15 [] [.int w0] := by
  unfold f_X9_isMultiple_b15 at h
  exact g_zret (pc := 15) C h dX9_isMultiple_15
set_option maxRecDepth 100000 in
set_option maxHeartbeats 4000000 in
theorem s_X9_isMultiple_b14 {X : MC} (C : Cx X cX9_isMultiple RX9 wsX9_isMultiple 2 rmX9_isMultiple (some .boolean)) (S : St) {r0 : Int32 × St} (h : f_X9_isMultiple_b14 S = some r0) : G X (QM mkI X r0) S 14 [] [] := by
  unfold f_X9_isMultiple_b14 at h
  refine g_iconst (pc := 14) (v := 0) C dX9_isMultiple_14 (by decide) ?_
  refine g_weak (lv1 := []) [] rfl ?_
  exact s_X9_isMultiple_b15 C 0  S h
set_option maxRecDepth 100000 in
set_option maxHeartbeats 4000000 in
theorem s_X9_isMultiple_b0 {X : MC} (C : Cx X cX9_isMultiple RX9 wsX9_isMultiple 2 rmX9_isMultiple (some .boolean)) (a1 : Int32) (a2 : Int32) (S : St) {r0 : Int32 × St} (h : f_X9_isMultiple_b0 a1 a2 S = some r0) : G X (QM mkI X r0) S 0 [(0, .int a1), (1, .int a2)] [] := by
  unfold f_X9_isMultiple_b0 at h
  refine g_iload_n (pc := 0) C dX9_isMultiple_0 rfl 1 rfl ?_
  refine g_if_le (pc := 1) (tgt := 14) C h dX9_isMultiple_1 (by decide) (fun h => ?_) (fun h => ?_)
  · refine g_weak (lv1 := []) [] rfl ?_
    exact s_X9_isMultiple_b14 C   S h
  · refine g_iload_n (pc := 4) C dX9_isMultiple_4 rfl 0 rfl ?_
    refine g_iload_n (pc := 5) C dX9_isMultiple_5 rfl 1 rfl ?_
    refine g_irem (pc := 6) C h dX9_isMultiple_6 (fun h => ?_)
    refine g_if_ne (pc := 7) (tgt := 14) C h dX9_isMultiple_7 (by decide) (fun h => ?_) (fun h => ?_)
    · refine g_weak (lv1 := []) [] rfl ?_
      exact s_X9_isMultiple_b14 C   S h
    · refine g_iconst (pc := 10) (v := 1) C dX9_isMultiple_10 (by decide) ?_
      refine g_goto (pc := 11) (tgt := 15) C dX9_isMultiple_11 (by decide) ?_
      refine g_weak (lv1 := []) [] rfl ?_
      exact s_X9_isMultiple_b15 C 1  S h
theorem c_X9_isMultiple (l : Launch) (b : Bw) (a1 : Int32) (a2 : Int32) (S : St) : Ct l b yX9_isMultiple wsX9_isMultiple rmX9_isMultiple [.int a1, .int a2] S mkI (f_X9_isMultiple a1 a2 S) := Ct.of (by decide +kernel) rfl (Nat.le_of_ble_eq_true rfl) (fun X C hl hb r h => by
  subst hl; subst hb
  exact s_X9_isMultiple_b0 C a1 a2 S h)
/-! StyleRows$Score.beginsBar(I)Z -/
set_option maxRecDepth 100000 in
set_option maxHeartbeats 4000000 in
theorem s_X9_beginsBar_b0 {X : MC} (C : Cx X cX9_beginsBar RX9 wsX9_beginsBar 2 rmX9_beginsBar (some .boolean)) (a1 : Int32) (S : St) {r0 : Int32 × St} (h : f_X9_beginsBar_b0 a1 S = some r0) : G X (QM mkI X r0) S 0 [(0, .ref (ad X 1)), (1, .int a1)] [] := by
  unfold f_X9_beginsBar_b0 at h
  refine g_iload_n (pc := 0) C dX9_beginsBar_0 rfl 1 rfl ?_
  refine g_aload_n (pc := 1) C dX9_beginsBar_1 rfl 0 rfl ?_
  refine g_get (pc := 2) C 1 (w_1 _ _) rfl 3 (Nat.le_of_ble_eq_true rfl) in_X9_X9_beginsBar k30_X9_beginsBar rfl dX9_beginsBar_2 ?_
  refine g_aload_n (pc := 5) C dX9_beginsBar_5 rfl 0 rfl ?_
  refine g_get (pc := 6) C 1 (w_1 _ _) rfl 4 (Nat.le_of_ble_eq_true rfl) in_X9_X9_beginsBar k34_X9_beginsBar rfl dX9_beginsBar_6 ?_
  refine g_imul (pc := 9) C dX9_beginsBar_9 ?_
  refine g_callS (pc := 10) C (c_X9_isMultiple (Xl X) (Xb X) a1 ((gI S 0) * (gI S 1)) S) gX9_beginsBar_X9_isMultiple rfl rfl rfl hd_X9_isMultiple ⟨Nat.le_of_ble_eq_true rfl, Nat.le_of_ble_eq_true rfl⟩ rfl rfl (Nat.le_of_ble_eq_true rfl) dX9_beginsBar_10 h (fun r2 S1 h => ?_)
  change G X _ S1 13 [(0, .ref (ad X 1)), (1, .int a1)] [.int r2]
  exact g_zret (pc := 13) C h dX9_beginsBar_13
theorem c_X9_beginsBar (l : Launch) (b : Bw) (a1 : Int32) (S : St) : Ct l b yX9_beginsBar wsX9_beginsBar rmX9_beginsBar [.ref (bad b 1), .int a1] S mkI (f_X9_beginsBar a1 S) := Ct.of (by decide +kernel) rfl (Nat.le_of_ble_eq_true rfl) (fun X C hl hb r h => by
  subst hl; subst hb
  exact s_X9_beginsBar_b0 C a1 S h)
/-! StyleRows$Score.beginsBeat(I)Z -/
set_option maxRecDepth 100000 in
set_option maxHeartbeats 4000000 in
theorem s_X9_beginsBeat_b0 {X : MC} (C : Cx X cX9_beginsBeat RX9 wsX9_beginsBeat 2 rmX9_beginsBeat (some .boolean)) (a1 : Int32) (S : St) {r0 : Int32 × St} (h : f_X9_beginsBeat_b0 a1 S = some r0) : G X (QM mkI X r0) S 0 [(0, .ref (ad X 1)), (1, .int a1)] [] := by
  unfold f_X9_beginsBeat_b0 at h
  refine g_iload_n (pc := 0) C dX9_beginsBeat_0 rfl 1 rfl ?_
  refine g_aload_n (pc := 1) C dX9_beginsBeat_1 rfl 0 rfl ?_
  refine g_get (pc := 2) C 1 (w_1 _ _) rfl 4 (Nat.le_of_ble_eq_true rfl) in_X9_X9_beginsBeat k34_X9_beginsBeat rfl dX9_beginsBeat_2 ?_
  refine g_callS (pc := 5) C (c_X9_isMultiple (Xl X) (Xb X) a1 (gI S 1) S) gX9_beginsBeat_X9_isMultiple rfl rfl rfl hd_X9_isMultiple ⟨Nat.le_of_ble_eq_true rfl, Nat.le_of_ble_eq_true rfl⟩ rfl rfl (Nat.le_of_ble_eq_true rfl) dX9_beginsBeat_5 h (fun r2 S1 h => ?_)
  change G X _ S1 8 [(0, .ref (ad X 1)), (1, .int a1)] [.int r2]
  exact g_zret (pc := 8) C h dX9_beginsBeat_8
theorem c_X9_beginsBeat (l : Launch) (b : Bw) (a1 : Int32) (S : St) : Ct l b yX9_beginsBeat wsX9_beginsBeat rmX9_beginsBeat [.ref (bad b 1), .int a1] S mkI (f_X9_beginsBeat a1 S) := Ct.of (by decide +kernel) rfl (Nat.le_of_ble_eq_true rfl) (fun X C hl hb r h => by
  subst hl; subst hb
  exact s_X9_beginsBeat_b0 C a1 S h)
/-! StyleRows$Performer.loudOf(LStyleRows$Score;ILStyleRows$Rules;)I -/
set_option maxRecDepth 100000 in
set_option maxHeartbeats 4000000 in
theorem s_X6_loudOf_b80 {X : MC} (C : Cx X cX6_loudOf RX6 wsX6_loudOf 5 rmX6_loudOf (some .int)) (v4 : Int32) (S : St) {r0 : Int32 × St} (h : f_X6_loudOf_b80 v4 S = some r0) : G X (QM mkI X r0) S 80 [(4, .int v4)] [] := by
  unfold f_X6_loudOf_b80 at h
  refine g_iconst (pc := 80) (v := 1) C dX6_loudOf_80 (by decide) ?_
  refine g_bipush (pc := 81) (v := 127) C dX6_loudOf_81 (by decide) ?_
  refine g_iload (pc := 83) C dX6_loudOf_83 0 rfl ?_
  refine g_mmin (pc := 85) C k103_X6_loudOf kstmin_X6_loudOf kini_X6_loudOf kcomin_X6_loudOf (Nat.le_of_ble_eq_true rfl) (Nat.le_of_ble_eq_true rfl) dX6_loudOf_85 ?_
  refine g_mmax (pc := 88) C k108_X6_loudOf kstmax_X6_loudOf kini_X6_loudOf kcomax_X6_loudOf (Nat.le_of_ble_eq_true rfl) (Nat.le_of_ble_eq_true rfl) dX6_loudOf_88 ?_
  exact g_iret (pc := 91) C h dX6_loudOf_91
set_option maxRecDepth 100000 in
set_option maxHeartbeats 4000000 in
theorem s_X6_loudOf_b32 {X : MC} (C : Cx X cX6_loudOf RX6 wsX6_loudOf 5 rmX6_loudOf (some .int)) (v2 : Int32) (v4 : Int32) (S : St) {r0 : Int32 × St} (h : f_X6_loudOf_b32 v2 v4 S = some r0) : G X (QM mkI X r0) S 32 [(0, .ref (ad X 8)), (1, .ref (ad X 1)), (2, .int v2), (3, .ref (ad X 6)), (4, .int v4)] [] := by
  unfold f_X6_loudOf_b32 at h
  refine g_aload_n (pc := 32) C dX6_loudOf_32 rfl 1 rfl ?_
  refine g_iload_n (pc := 33) C dX6_loudOf_33 rfl 2 rfl ?_
  refine g_callV (pc := 34) C 1 (c_X9_beginsBar (Xl X) (Xb X) v2 S) gX6_loudOf_X9_beginsBar rfl rfl rfl hd_X9_beginsBar ⟨Nat.le_of_ble_eq_true rfl, Nat.le_of_ble_eq_true rfl⟩ (w_1 _ _) rfl rfl rfl (Nat.le_of_ble_eq_true rfl) dX6_loudOf_34 h (fun r6 S5 h => ?_)
  change G X _ S5 37 [(0, .ref (ad X 8)), (1, .ref (ad X 1)), (2, .int v2), (3, .ref (ad X 6)), (4, .int v4)] [.int r6]
  refine g_if_eq (pc := 37) (tgt := 57) C h dX6_loudOf_37 (by decide) (fun h => ?_) (fun h => ?_)
  · refine g_aload_n (pc := 57) C dX6_loudOf_57 rfl 1 rfl ?_
    refine g_iload_n (pc := 58) C dX6_loudOf_58 rfl 2 rfl ?_
    refine g_callV (pc := 59) C 1 (c_X9_beginsBeat (Xl X) (Xb X) v2 S5) gX6_loudOf_X9_beginsBeat rfl rfl rfl hd_X9_beginsBeat ⟨Nat.le_of_ble_eq_true rfl, Nat.le_of_ble_eq_true rfl⟩ (w_1 _ _) rfl rfl rfl (Nat.le_of_ble_eq_true rfl) dX6_loudOf_59 h (fun r8 S7 h => ?_)
    change G X _ S7 62 [(0, .ref (ad X 8)), (1, .ref (ad X 1)), (2, .int v2), (3, .ref (ad X 6)), (4, .int v4)] [.int r8]
    refine g_if_eq (pc := 62) (tgt := 80) C h dX6_loudOf_62 (by decide) (fun h => ?_) (fun h => ?_)
    · refine g_weak (lv1 := [(4, .int v4)]) [4] rfl ?_
      exact s_X6_loudOf_b80 C v4  S7 h
    · refine g_iload (pc := 65) C dX6_loudOf_65 4 rfl ?_
      refine g_aload_n (pc := 67) C dX6_loudOf_67 rfl 3 rfl ?_
      refine g_aload_n (pc := 68) C dX6_loudOf_68 rfl 0 rfl ?_
      refine g_get (pc := 69) C 8 (w_8 _ _) rfl 2 (Nat.le_of_ble_eq_true rfl) in_X6_X6_loudOf k77_X6_loudOf rfl dX6_loudOf_69 ?_
      refine g_bipush (pc := 72) (v := 6) C dX6_loudOf_72 (by decide) ?_
      refine g_callV (pc := 74) C 6 (c_X8_numberFor (Xl X) (Xb X) (gI S7 13) 6 S7) gX6_loudOf_X8_numberFor rfl rfl rfl hd_X8_numberFor ⟨Nat.le_of_ble_eq_true rfl, Nat.le_of_ble_eq_true rfl⟩ (w_6 _ _) rfl rfl rfl (Nat.le_of_ble_eq_true rfl) dX6_loudOf_74 h (fun r10 S9 h => ?_)
      change G X _ S9 77 [(0, .ref (ad X 8)), (1, .ref (ad X 1)), (2, .int v2), (3, .ref (ad X 6)), (4, .int v4)] [.int r10, .int v4]
      refine g_iadd (pc := 77) C dX6_loudOf_77 ?_
      refine g_leti h (fun x11 h => ?_)
      refine g_istore (pc := 78) C [(4, .int x11), (0, .ref (ad X 8)), (1, .ref (ad X 1)), (2, .int v2), (3, .ref (ad X 6))] dX6_loudOf_78 (Nat.le_of_ble_eq_true rfl) rfl ?_
      refine g_weak (lv1 := [(4, .int x11)]) [0] rfl ?_
      exact s_X6_loudOf_b80 C x11  S9 h
  · refine g_iload (pc := 40) C dX6_loudOf_40 4 rfl ?_
    refine g_aload_n (pc := 42) C dX6_loudOf_42 rfl 3 rfl ?_
    refine g_aload_n (pc := 43) C dX6_loudOf_43 rfl 0 rfl ?_
    refine g_get (pc := 44) C 8 (w_8 _ _) rfl 2 (Nat.le_of_ble_eq_true rfl) in_X6_X6_loudOf k77_X6_loudOf rfl dX6_loudOf_44 ?_
    refine g_iconst (pc := 47) (v := 5) C dX6_loudOf_47 (by decide) ?_
    refine g_callV (pc := 48) C 6 (c_X8_numberFor (Xl X) (Xb X) (gI S5 13) 5 S5) gX6_loudOf_X8_numberFor rfl rfl rfl hd_X8_numberFor ⟨Nat.le_of_ble_eq_true rfl, Nat.le_of_ble_eq_true rfl⟩ (w_6 _ _) rfl rfl rfl (Nat.le_of_ble_eq_true rfl) dX6_loudOf_48 h (fun r13 S12 h => ?_)
    change G X _ S12 51 [(0, .ref (ad X 8)), (1, .ref (ad X 1)), (2, .int v2), (3, .ref (ad X 6)), (4, .int v4)] [.int r13, .int v4]
    refine g_iadd (pc := 51) C dX6_loudOf_51 ?_
    refine g_leti h (fun x14 h => ?_)
    refine g_istore (pc := 52) C [(4, .int x14), (0, .ref (ad X 8)), (1, .ref (ad X 1)), (2, .int v2), (3, .ref (ad X 6))] dX6_loudOf_52 (Nat.le_of_ble_eq_true rfl) rfl ?_
    refine g_goto (pc := 54) (tgt := 80) C dX6_loudOf_54 (by decide) ?_
    refine g_weak (lv1 := [(4, .int x14)]) [0] rfl ?_
    exact s_X6_loudOf_b80 C x14  S12 h
set_option maxRecDepth 100000 in
set_option maxHeartbeats 4000000 in
theorem s_X6_loudOf_b0 {X : MC} (C : Cx X cX6_loudOf RX6 wsX6_loudOf 5 rmX6_loudOf (some .int)) (a2 : Int32) (S : St) {r0 : Int32 × St} (h : f_X6_loudOf_b0 a2 S = some r0) : G X (QM mkI X r0) S 0 [(0, .ref (ad X 8)), (1, .ref (ad X 1)), (2, .int a2), (3, .ref (ad X 6))] [] := by
  unfold f_X6_loudOf_b0 at h
  refine g_aload_n (pc := 0) C dX6_loudOf_0 rfl 1 rfl ?_
  refine g_getN (pc := 1) C 1 (w_1 _ _) rfl 1 (Nat.le_of_ble_eq_true rfl) in_X9_X6_loudOf nw_X6_111 rfl dX6_loudOf_1 ?_
  refine g_iload_n (pc := 4) C dX6_loudOf_4 rfl 2 rfl ?_
  refine g_callV (pc := 5) C 3 (c_X2_at (Xl X) (Xb X) a2 S) gX6_loudOf_X2_at rfl rfl rfl hd_X2_at ⟨Nat.le_of_ble_eq_true rfl, Nat.le_of_ble_eq_true rfl⟩ (w_3 _ _) rfl rfl rfl (Nat.le_of_ble_eq_true rfl) dX6_loudOf_5 h (fun r2 S1 h => ?_)
  change G X _ S1 8 [(0, .ref (ad X 8)), (1, .ref (ad X 1)), (2, .int a2), (3, .ref (ad X 6))] [.int r2]
  refine g_istore (pc := 8) C [(4, .int r2), (0, .ref (ad X 8)), (1, .ref (ad X 1)), (2, .int a2), (3, .ref (ad X 6))] dX6_loudOf_8 (Nat.le_of_ble_eq_true rfl) rfl ?_
  refine g_aload_n (pc := 10) C dX6_loudOf_10 rfl 1 rfl ?_
  refine g_iconst (pc := 11) (v := 4) C dX6_loudOf_11 (by decide) ?_
  refine g_callV (pc := 12) C 8 (c_X6_isMarked (Xl X) (Xb X) 4 S1) gX6_loudOf_X6_isMarked rfl rfl rfl hd_X6_isMarked ⟨Nat.le_of_ble_eq_true rfl, Nat.le_of_ble_eq_true rfl⟩ (w_8 _ _) rfl rfl rfl (Nat.le_of_ble_eq_true rfl) dX6_loudOf_12 h (fun r4 S3 h => ?_)
  change G X _ S3 15 [(4, .int r2), (0, .ref (ad X 8)), (1, .ref (ad X 1)), (2, .int a2), (3, .ref (ad X 6))] [.int r4]
  refine g_if_eq (pc := 15) (tgt := 32) C h dX6_loudOf_15 (by decide) (fun h => ?_) (fun h => ?_)
  · refine g_weak (lv1 := [(0, .ref (ad X 8)), (1, .ref (ad X 1)), (2, .int a2), (3, .ref (ad X 6)), (4, .int r2)]) [1, 2, 3, 4, 0] rfl ?_
    exact s_X6_loudOf_b32 C a2 r2  S3 h
  · refine g_iload (pc := 18) C dX6_loudOf_18 0 rfl ?_
    refine g_aload_n (pc := 20) C dX6_loudOf_20 rfl 4 rfl ?_
    refine g_aload_n (pc := 21) C dX6_loudOf_21 rfl 1 rfl ?_
    refine g_get (pc := 22) C 8 (w_8 _ _) rfl 2 (Nat.le_of_ble_eq_true rfl) in_X6_X6_loudOf k77_X6_loudOf rfl dX6_loudOf_22 ?_
    refine g_iconst (pc := 25) (v := 4) C dX6_loudOf_25 (by decide) ?_
    refine g_callV (pc := 26) C 6 (c_X8_numberFor (Xl X) (Xb X) (gI S3 13) 4 S3) gX6_loudOf_X8_numberFor rfl rfl rfl hd_X8_numberFor ⟨Nat.le_of_ble_eq_true rfl, Nat.le_of_ble_eq_true rfl⟩ (w_6 _ _) rfl rfl rfl (Nat.le_of_ble_eq_true rfl) dX6_loudOf_26 h (fun r16 S15 h => ?_)
    change G X _ S15 29 [(4, .int r2), (0, .ref (ad X 8)), (1, .ref (ad X 1)), (2, .int a2), (3, .ref (ad X 6))] [.int r16, .int r2]
    refine g_iadd (pc := 29) C dX6_loudOf_29 ?_
    refine g_leti h (fun x17 h => ?_)
    refine g_istore (pc := 30) C [(4, .int x17), (0, .ref (ad X 8)), (1, .ref (ad X 1)), (2, .int a2), (3, .ref (ad X 6))] dX6_loudOf_30 (Nat.le_of_ble_eq_true rfl) rfl ?_
    refine g_weak (lv1 := [(0, .ref (ad X 8)), (1, .ref (ad X 1)), (2, .int a2), (3, .ref (ad X 6)), (4, .int x17)]) [1, 2, 3, 4, 0] rfl ?_
    exact s_X6_loudOf_b32 C a2 x17  S15 h
theorem c_X6_loudOf (l : Launch) (b : Bw) (a2 : Int32) (S : St) : Ct l b yX6_loudOf wsX6_loudOf rmX6_loudOf [.ref (bad b 8), .ref (bad b 1), .int a2, .ref (bad b 6)] S mkI (f_X6_loudOf a2 S) := Ct.of (by decide +kernel) rfl (Nat.le_of_ble_eq_true rfl) (fun X C hl hb r h => by
  subst hl; subst hb
  exact s_X6_loudOf_b0 C a2 S h)
/-! StyleRows$Performer.drawOf(IJ)I -/
set_option maxRecDepth 100000 in
set_option maxHeartbeats 4000000 in
theorem s_X6_drawOf_b0 {X : MC} (C : Cx X cX6_drawOf RX6 wsX6_drawOf 6 rmX6_drawOf (some .int)) (a1 : Int32) (a2 : Int64) (S : St) {r0 : Int32 × St} (h : f_X6_drawOf_b0 a1 a2 S = some r0) : G X (QM mkI X r0) S 0 [(0, .ref (ad X 8)), (1, .int a1), (2, .long a2)] [] := by
  unfold f_X6_drawOf_b0 at h
  refine g_lload_n (pc := 0) C dX6_drawOf_0 rfl 2 rfl ?_
  refine g_aload_n (pc := 1) C dX6_drawOf_1 rfl 0 rfl ?_
  refine g_get (pc := 2) C 8 (w_8 _ _) rfl 1 (Nat.le_of_ble_eq_true rfl) in_X6_X6_drawOf k71_X6_drawOf rfl dX6_drawOf_2 ?_
  refine g_i2l (pc := 5) C dX6_drawOf_5 ?_
  refine g_lconst (pc := 6) (v := 1) C dX6_drawOf_6 (by decide) ?_
  refine g_ladd (pc := 7) C dX6_drawOf_7 ?_
  refine g_ldc2 (pc := 8) (v := (-7046029254386353131)) C k131_X6_drawOf dX6_drawOf_8 ?_
  refine g_lmul (pc := 11) C dX6_drawOf_11 ?_
  refine g_ladd (pc := 12) C dX6_drawOf_12 ?_
  refine g_letl h (fun y1 h => ?_)
  refine g_lstore (pc := 13) C [(4, .long y1), (0, .ref (ad X 8)), (1, .int a1), (2, .long a2)] dX6_drawOf_13 (Nat.le_of_ble_eq_true rfl) rfl ?_
  refine g_lload (pc := 15) C dX6_drawOf_15 0 rfl ?_
  refine g_lload (pc := 17) C dX6_drawOf_17 0 rfl ?_
  refine g_bipush (pc := 19) (v := 30) C dX6_drawOf_19 (by decide) ?_
  refine g_lushr (pc := 21) C dX6_drawOf_21 ?_
  refine g_lxor (pc := 22) C dX6_drawOf_22 ?_
  refine g_ldc2 (pc := 23) (v := (-4658895280553007687)) C k133_X6_drawOf dX6_drawOf_23 ?_
  refine g_lmul (pc := 26) C dX6_drawOf_26 ?_
  refine g_letl h (fun y2 h => ?_)
  refine g_lstore (pc := 27) C [(4, .long y2), (0, .ref (ad X 8)), (1, .int a1), (2, .long a2)] dX6_drawOf_27 (Nat.le_of_ble_eq_true rfl) rfl ?_
  refine g_lload (pc := 29) C dX6_drawOf_29 0 rfl ?_
  refine g_lload (pc := 31) C dX6_drawOf_31 0 rfl ?_
  refine g_bipush (pc := 33) (v := 27) C dX6_drawOf_33 (by decide) ?_
  refine g_lushr (pc := 35) C dX6_drawOf_35 ?_
  refine g_lxor (pc := 36) C dX6_drawOf_36 ?_
  refine g_letl h (fun y3 h => ?_)
  refine g_lstore (pc := 37) C [(4, .long y3), (0, .ref (ad X 8)), (1, .int a1), (2, .long a2)] dX6_drawOf_37 (Nat.le_of_ble_eq_true rfl) rfl ?_
  refine g_lload (pc := 39) C dX6_drawOf_39 0 rfl ?_
  refine g_bipush (pc := 41) (v := 33) C dX6_drawOf_41 (by decide) ?_
  refine g_lushr (pc := 43) C dX6_drawOf_43 ?_
  refine g_ldc2 (pc := 44) (v := 2) C k135_X6_drawOf dX6_drawOf_44 ?_
  refine g_iconst (pc := 47) (v := 0) C dX6_drawOf_47 (by decide) ?_
  refine g_iload_n (pc := 48) C dX6_drawOf_48 rfl 2 rfl ?_
  refine g_mmax (pc := 49) C k108_X6_drawOf kstmax_X6_drawOf kini_X6_drawOf kcomax_X6_drawOf (Nat.le_of_ble_eq_true rfl) (Nat.le_of_ble_eq_true rfl) dX6_drawOf_49 ?_
  refine g_i2l (pc := 52) C dX6_drawOf_52 ?_
  refine g_lmul (pc := 53) C dX6_drawOf_53 ?_
  refine g_lconst (pc := 54) (v := 1) C dX6_drawOf_54 (by decide) ?_
  refine g_ladd (pc := 55) C dX6_drawOf_55 ?_
  refine g_callS (pc := 56) C (c_J9_floorMod_f86c9 (Xl X) (Xb X) (lus y3 33) ((2 * (Int32.toInt64 (imax 0 a1))) + 1) S) gX6_drawOf_J9_floorMod_f86c9 rfl rfl rfl hd_J9_floorMod_f86c9 ⟨Nat.le_of_ble_eq_true rfl, Nat.le_of_ble_eq_true rfl⟩ rfl rfl (Nat.le_of_ble_eq_true rfl) dX6_drawOf_56 h (fun r5 S4 h => ?_)
  change G X _ S4 59 [(4, .long y3), (0, .ref (ad X 8)), (1, .int a1), (2, .long a2)] [.long r5]
  refine g_l2i (pc := 59) C dX6_drawOf_59 ?_
  refine g_iload_n (pc := 60) C dX6_drawOf_60 rfl 2 rfl ?_
  refine g_isub (pc := 61) C dX6_drawOf_61 ?_
  exact g_iret (pc := 62) C h dX6_drawOf_62
theorem c_X6_drawOf (l : Launch) (b : Bw) (a1 : Int32) (a2 : Int64) (S : St) : Ct l b yX6_drawOf wsX6_drawOf rmX6_drawOf [.ref (bad b 8), .int a1, .long a2] S mkI (f_X6_drawOf a1 a2 S) := Ct.of (by decide +kernel) rfl (Nat.le_of_ble_eq_true rfl) (fun X C hl hb r h => by
  subst hl; subst hb
  exact s_X6_drawOf_b0 C a1 a2 S h)
/-! StyleRows$Performer.onOf(ILStyleRows$Rules;J)I -/
set_option maxRecDepth 100000 in
set_option maxHeartbeats 4000000 in
theorem s_X6_onOf_b34 {X : MC} (C : Cx X cX6_onOf RX6 wsX6_onOf 6 rmX6_onOf (some .int)) (w0 : Int32) (S : St) {r0 : Int32 × St} (h : f_X6_onOf_b34 w0 S = some r0) : G X (QM mkI X r0) S 34 [] [.int w0] := by
  unfold f_X6_onOf_b34 at h
  exact g_iret (pc := 34) C h dX6_onOf_34
set_option maxRecDepth 100000 in
set_option maxHeartbeats 4000000 in
theorem s_X6_onOf_b0 {X : MC} (C : Cx X cX6_onOf RX6 wsX6_onOf 6 rmX6_onOf (some .int)) (a1 : Int32) (a3 : Int64) (S : St) {r0 : Int32 × St} (h : f_X6_onOf_b0 a1 a3 S = some r0) : G X (QM mkI X r0) S 0 [(0, .ref (ad X 8)), (1, .int a1), (2, .ref (ad X 6)), (3, .long a3)] [] := by
  unfold f_X6_onOf_b0 at h
  refine g_aload_n (pc := 0) C dX6_onOf_0 rfl 2 rfl ?_
  refine g_aload_n (pc := 1) C dX6_onOf_1 rfl 0 rfl ?_
  refine g_get (pc := 2) C 8 (w_8 _ _) rfl 2 (Nat.le_of_ble_eq_true rfl) in_X6_X6_onOf k77_X6_onOf rfl dX6_onOf_2 ?_
  refine g_bipush (pc := 5) (v := 12) C dX6_onOf_5 (by decide) ?_
  refine g_callV (pc := 7) C 6 (c_X8_numberFor (Xl X) (Xb X) (gI S 13) 12 S) gX6_onOf_X8_numberFor rfl rfl rfl hd_X8_numberFor ⟨Nat.le_of_ble_eq_true rfl, Nat.le_of_ble_eq_true rfl⟩ (w_6 _ _) rfl rfl rfl (Nat.le_of_ble_eq_true rfl) dX6_onOf_7 h (fun r2 S1 h => ?_)
  change G X _ S1 10 [(0, .ref (ad X 8)), (1, .int a1), (2, .ref (ad X 6)), (3, .long a3)] [.int r2]
  refine g_istore (pc := 10) C [(5, .int r2), (0, .ref (ad X 8)), (1, .int a1), (2, .ref (ad X 6)), (3, .long a3)] dX6_onOf_10 (Nat.le_of_ble_eq_true rfl) rfl ?_
  refine g_iload (pc := 12) C dX6_onOf_12 0 rfl ?_
  refine g_if_le (pc := 14) (tgt := 33) C h dX6_onOf_14 (by decide) (fun h => ?_) (fun h => ?_)
  · refine g_iload_n (pc := 33) C dX6_onOf_33 rfl 2 rfl ?_
    refine g_weak (lv1 := []) [] rfl ?_
    exact s_X6_onOf_b34 C a1  S1 h
  · refine g_iconst (pc := 17) (v := 0) C dX6_onOf_17 (by decide) ?_
    refine g_iload_n (pc := 18) C dX6_onOf_18 rfl 2 rfl ?_
    refine g_aload_n (pc := 19) C dX6_onOf_19 rfl 1 rfl ?_
    refine g_iload (pc := 20) C dX6_onOf_20 0 rfl ?_
    refine g_lload_n (pc := 22) C dX6_onOf_22 rfl 4 rfl ?_
    refine g_callV (pc := 23) C 8 (c_X6_drawOf (Xl X) (Xb X) r2 a3 S1) gX6_onOf_X6_drawOf rfl rfl rfl hd_X6_drawOf ⟨Nat.le_of_ble_eq_true rfl, Nat.le_of_ble_eq_true rfl⟩ (w_8 _ _) rfl rfl rfl (Nat.le_of_ble_eq_true rfl) dX6_onOf_23 h (fun r4 S3 h => ?_)
    change G X _ S3 26 [(5, .int r2), (0, .ref (ad X 8)), (1, .int a1), (2, .ref (ad X 6)), (3, .long a3)] [.int r4, .int a1, .int 0]
    refine g_iadd (pc := 26) C dX6_onOf_26 ?_
    refine g_mmax (pc := 27) C k108_X6_onOf kstmax_X6_onOf kini_X6_onOf kcomax_X6_onOf (Nat.le_of_ble_eq_true rfl) (Nat.le_of_ble_eq_true rfl) dX6_onOf_27 ?_
    refine g_goto (pc := 30) (tgt := 34) C dX6_onOf_30 (by decide) ?_
    refine g_weak (lv1 := []) [] rfl ?_
    exact s_X6_onOf_b34 C (imax 0 (a1 + r4))  S3 h
theorem c_X6_onOf (l : Launch) (b : Bw) (a1 : Int32) (a3 : Int64) (S : St) : Ct l b yX6_onOf wsX6_onOf rmX6_onOf [.ref (bad b 8), .int a1, .ref (bad b 6), .long a3] S mkI (f_X6_onOf a1 a3 S) := Ct.of (by decide +kernel) rfl (Nat.le_of_ble_eq_true rfl) (fun X C hl hb r h => by
  subst hl; subst hb
  exact s_X6_onOf_b0 C a1 a3 S h)
/-! StyleRows$Events.add(IIIIIII)V -/
set_option maxRecDepth 100000 in
set_option maxHeartbeats 4000000 in
theorem s_X1_add_b0 {X : MC} (C : Cx X cX1_add RX1 wsX1_add 8 rmX1_add none) (a1 : Int32) (a2 : Int32) (a3 : Int32) (a4 : Int32) (a5 : Int32) (a6 : Int32) (a7 : Int32) (S : St) {r0 : Unit × St} (h : f_X1_add_b0 a1 a2 a3 a4 a5 a6 a7 S = some r0) : G X (QM mkV X r0) S 0 [(0, .ref (ad X 9)), (1, .int a1), (2, .int a2), (3, .int a3), (4, .int a4), (5, .int a5), (6, .int a6), (7, .int a7)] [] := by
  unfold f_X1_add_b0 at h
  refine g_aload_n (pc := 0) C dX1_add_0 rfl 0 rfl ?_
  refine g_get (pc := 1) C 9 (w_9 _ _) rfl 1 (Nat.le_of_ble_eq_true rfl) in_X1_X1_add k16_X1_add rfl dX1_add_1 ?_
  refine g_sipush (pc := 4) (v := 400) C dX1_add_4 (by decide) ?_
  refine g_icmp_lt (pc := 7) (tgt := 16) C h dX1_add_7 (by decide) (fun h => ?_) (fun h => ?_)
  · refine g_aload_n (pc := 16) C dX1_add_16 rfl 0 rfl ?_
    refine g_get (pc := 17) C 9 (w_9 _ _) rfl 0 (Nat.le_of_ble_eq_true rfl) in_X1_X1_add k13_X1_add rfl dX1_add_17 ?_
    refine g_iconst (pc := 20) (v := 0) C dX1_add_20 (by decide) ?_
    refine g_aaldc (pc := 21) (i := 0) C 31 32 (w_31 _ _) rfl rfl dX1_add_21 ?_
    refine g_aload_n (pc := 22) C dX1_add_22 rfl 0 rfl ?_
    refine g_get (pc := 23) C 9 (w_9 _ _) rfl 1 (Nat.le_of_ble_eq_true rfl) in_X1_X1_add k16_X1_add rfl dX1_add_23 ?_
    refine g_iload_n (pc := 26) C dX1_add_26 rfl 1 rfl ?_
    refine g_iast (pc := 27) C 32 (w_32 _ _) (ws_32 _ _) h dX1_add_27 (fun S1 h => ?_)
    refine g_aload_n (pc := 28) C dX1_add_28 rfl 0 rfl ?_
    refine g_get (pc := 29) C 9 (w_9 _ _) rfl 0 (Nat.le_of_ble_eq_true rfl) in_X1_X1_add k13_X1_add rfl dX1_add_29 ?_
    refine g_iconst (pc := 32) (v := 1) C dX1_add_32 (by decide) ?_
    refine g_aaldc (pc := 33) (i := 1) C 31 33 (w_31 _ _) rfl rfl dX1_add_33 ?_
    refine g_aload_n (pc := 34) C dX1_add_34 rfl 0 rfl ?_
    refine g_get (pc := 35) C 9 (w_9 _ _) rfl 1 (Nat.le_of_ble_eq_true rfl) in_X1_X1_add k16_X1_add rfl dX1_add_35 ?_
    refine g_iload_n (pc := 38) C dX1_add_38 rfl 2 rfl ?_
    refine g_iast (pc := 39) C 33 (w_33 _ _) (ws_33 _ _) h dX1_add_39 (fun S2 h => ?_)
    refine g_aload_n (pc := 40) C dX1_add_40 rfl 0 rfl ?_
    refine g_get (pc := 41) C 9 (w_9 _ _) rfl 0 (Nat.le_of_ble_eq_true rfl) in_X1_X1_add k13_X1_add rfl dX1_add_41 ?_
    refine g_iconst (pc := 44) (v := 2) C dX1_add_44 (by decide) ?_
    refine g_aaldc (pc := 45) (i := 2) C 31 34 (w_31 _ _) rfl rfl dX1_add_45 ?_
    refine g_aload_n (pc := 46) C dX1_add_46 rfl 0 rfl ?_
    refine g_get (pc := 47) C 9 (w_9 _ _) rfl 1 (Nat.le_of_ble_eq_true rfl) in_X1_X1_add k16_X1_add rfl dX1_add_47 ?_
    refine g_iload_n (pc := 50) C dX1_add_50 rfl 3 rfl ?_
    refine g_iast (pc := 51) C 34 (w_34 _ _) (ws_34 _ _) h dX1_add_51 (fun S3 h => ?_)
    refine g_aload_n (pc := 52) C dX1_add_52 rfl 0 rfl ?_
    refine g_get (pc := 53) C 9 (w_9 _ _) rfl 0 (Nat.le_of_ble_eq_true rfl) in_X1_X1_add k13_X1_add rfl dX1_add_53 ?_
    refine g_iconst (pc := 56) (v := 3) C dX1_add_56 (by decide) ?_
    refine g_aaldc (pc := 57) (i := 3) C 31 35 (w_31 _ _) rfl rfl dX1_add_57 ?_
    refine g_aload_n (pc := 58) C dX1_add_58 rfl 0 rfl ?_
    refine g_get (pc := 59) C 9 (w_9 _ _) rfl 1 (Nat.le_of_ble_eq_true rfl) in_X1_X1_add k16_X1_add rfl dX1_add_59 ?_
    refine g_iload (pc := 62) C dX1_add_62 4 rfl ?_
    refine g_iast (pc := 64) C 35 (w_35 _ _) (ws_35 _ _) h dX1_add_64 (fun S4 h => ?_)
    refine g_aload_n (pc := 65) C dX1_add_65 rfl 0 rfl ?_
    refine g_get (pc := 66) C 9 (w_9 _ _) rfl 0 (Nat.le_of_ble_eq_true rfl) in_X1_X1_add k13_X1_add rfl dX1_add_66 ?_
    refine g_iconst (pc := 69) (v := 4) C dX1_add_69 (by decide) ?_
    refine g_aaldc (pc := 70) (i := 4) C 31 36 (w_31 _ _) rfl rfl dX1_add_70 ?_
    refine g_aload_n (pc := 71) C dX1_add_71 rfl 0 rfl ?_
    refine g_get (pc := 72) C 9 (w_9 _ _) rfl 1 (Nat.le_of_ble_eq_true rfl) in_X1_X1_add k16_X1_add rfl dX1_add_72 ?_
    refine g_iload (pc := 75) C dX1_add_75 5 rfl ?_
    refine g_iast (pc := 77) C 36 (w_36 _ _) (ws_36 _ _) h dX1_add_77 (fun S5 h => ?_)
    refine g_aload_n (pc := 78) C dX1_add_78 rfl 0 rfl ?_
    refine g_get (pc := 79) C 9 (w_9 _ _) rfl 0 (Nat.le_of_ble_eq_true rfl) in_X1_X1_add k13_X1_add rfl dX1_add_79 ?_
    refine g_iconst (pc := 82) (v := 5) C dX1_add_82 (by decide) ?_
    refine g_aaldc (pc := 83) (i := 5) C 31 37 (w_31 _ _) rfl rfl dX1_add_83 ?_
    refine g_aload_n (pc := 84) C dX1_add_84 rfl 0 rfl ?_
    refine g_get (pc := 85) C 9 (w_9 _ _) rfl 1 (Nat.le_of_ble_eq_true rfl) in_X1_X1_add k16_X1_add rfl dX1_add_85 ?_
    refine g_iload (pc := 88) C dX1_add_88 6 rfl ?_
    refine g_iast (pc := 90) C 37 (w_37 _ _) (ws_37 _ _) h dX1_add_90 (fun S6 h => ?_)
    refine g_aload_n (pc := 91) C dX1_add_91 rfl 0 rfl ?_
    refine g_get (pc := 92) C 9 (w_9 _ _) rfl 0 (Nat.le_of_ble_eq_true rfl) in_X1_X1_add k13_X1_add rfl dX1_add_92 ?_
    refine g_bipush (pc := 95) (v := 6) C dX1_add_95 (by decide) ?_
    refine g_aaldc (pc := 97) (i := 6) C 31 38 (w_31 _ _) rfl rfl dX1_add_97 ?_
    refine g_aload_n (pc := 98) C dX1_add_98 rfl 0 rfl ?_
    refine g_get (pc := 99) C 9 (w_9 _ _) rfl 1 (Nat.le_of_ble_eq_true rfl) in_X1_X1_add k16_X1_add rfl dX1_add_99 ?_
    refine g_iload (pc := 102) C dX1_add_102 7 rfl ?_
    refine g_iast (pc := 104) C 38 (w_38 _ _) (ws_38 _ _) h dX1_add_104 (fun S7 h => ?_)
    refine g_aload_n (pc := 105) C dX1_add_105 rfl 0 rfl ?_
    refine g_dup (pc := 106) C dX1_add_106 rfl ?_
    refine g_get (pc := 107) C 9 (w_9 _ _) rfl 1 (Nat.le_of_ble_eq_true rfl) in_X1_X1_add k16_X1_add rfl dX1_add_107 ?_
    refine g_iconst (pc := 110) (v := 1) C dX1_add_110 (by decide) ?_
    refine g_iadd (pc := 111) C dX1_add_111 ?_
    refine g_put (pc := 112) C 9 (w_9 _ _) rfl 1 (Nat.le_of_ble_eq_true rfl) in_X1_X1_add tyX1_ok nmX1 k16_X1_add rfl rfl rfl (Nat.le_of_ble_eq_true rfl) (ws_9_1 _ _ _) dX1_add_112 h (fun S8 h => ?_)
    exact g_vret (pc := 115) C h dX1_add_115
  · refine g_aload_n (pc := 10) C dX1_add_10 rfl 0 rfl ?_
    refine g_iconst (pc := 11) (v := 1) C dX1_add_11 (by decide) ?_
    refine g_put (pc := 12) C 9 (w_9 _ _) rfl 2 (Nat.le_of_ble_eq_true rfl) in_X1_X1_add tyX1_ok nmX1 k20_X1_add rfl rfl rfl (Nat.le_of_ble_eq_true rfl) (ws_9_2 _ _ _) dX1_add_12 h (fun S9 h => ?_)
    exact g_vret (pc := 15) C h dX1_add_15
theorem c_X1_add (l : Launch) (b : Bw) (a1 : Int32) (a2 : Int32) (a3 : Int32) (a4 : Int32) (a5 : Int32) (a6 : Int32) (a7 : Int32) (S : St) : Ct l b yX1_add wsX1_add rmX1_add [.ref (bad b 9), .int a1, .int a2, .int a3, .int a4, .int a5, .int a6, .int a7] S mkV (f_X1_add a1 a2 a3 a4 a5 a6 a7 S) := Ct.of (by decide +kernel) rfl (Nat.le_of_ble_eq_true rfl) (fun X C hl hb r h => by
  subst hl; subst hb
  exact s_X1_add_b0 C a1 a2 a3 a4 a5 a6 a7 S h)
/-! StyleRows$Performer.addPart(IIII)V -/
set_option maxRecDepth 100000 in
set_option maxHeartbeats 4000000 in
theorem s_X6_addPart_b0 {X : MC} (C : Cx X cX6_addPart RX6 wsX6_addPart 5 rmX6_addPart none) (a1 : Int32) (a2 : Int32) (a3 : Int32) (a4 : Int32) (S : St) {r0 : Unit × St} (h : f_X6_addPart_b0 a1 a2 a3 a4 S = some r0) : G X (QM mkV X r0) S 0 [(0, .ref (ad X 8)), (1, .int a1), (2, .int a2), (3, .int a3), (4, .int a4)] [] := by
  unfold f_X6_addPart_b0 at h
  refine g_aload_n (pc := 0) C dX6_addPart_0 rfl 0 rfl ?_
  refine g_get (pc := 1) C 8 (w_8 _ _) rfl 0 (Nat.le_of_ble_eq_true rfl) in_X6_X6_addPart k10_X6_addPart rfl dX6_addPart_1 ?_
  refine g_aload_n (pc := 4) C dX6_addPart_4 rfl 0 rfl ?_
  refine g_get (pc := 5) C 8 (w_8 _ _) rfl 6 (Nat.le_of_ble_eq_true rfl) in_X6_X6_addPart k64_X6_addPart rfl dX6_addPart_5 ?_
  refine g_iload (pc := 8) C dX6_addPart_8 4 rfl ?_
  refine g_iload_n (pc := 10) C dX6_addPart_10 rfl 2 rfl ?_
  refine g_iload_n (pc := 11) C dX6_addPart_11 rfl 3 rfl ?_
  refine g_aload_n (pc := 12) C dX6_addPart_12 rfl 0 rfl ?_
  refine g_get (pc := 13) C 8 (w_8 _ _) rfl 1 (Nat.le_of_ble_eq_true rfl) in_X6_X6_addPart k71_X6_addPart rfl dX6_addPart_13 ?_
  refine g_iload_n (pc := 16) C dX6_addPart_16 rfl 1 rfl ?_
  refine g_aload_n (pc := 17) C dX6_addPart_17 rfl 0 rfl ?_
  refine g_get (pc := 18) C 8 (w_8 _ _) rfl 2 (Nat.le_of_ble_eq_true rfl) in_X6_X6_addPart k77_X6_addPart rfl dX6_addPart_18 ?_
  refine g_callV (pc := 21) C 9 (c_X1_add (Xl X) (Xb X) (gI S 17) a4 a2 a3 (gI S 12) a1 (gI S 13) S) gX6_addPart_X1_add rfl rfl rfl hd_X1_add ⟨Nat.le_of_ble_eq_true rfl, Nat.le_of_ble_eq_true rfl⟩ (w_9 _ _) rfl rfl rfl (Nat.le_of_ble_eq_true rfl) dX6_addPart_21 h (fun _u1 S1 h => ?_)
  change G X _ S1 24 [(0, .ref (ad X 8)), (1, .int a1), (2, .int a2), (3, .int a3), (4, .int a4)] []
  refine g_aload_n (pc := 24) C dX6_addPart_24 rfl 0 rfl ?_
  refine g_dup (pc := 25) C dX6_addPart_25 rfl ?_
  refine g_get (pc := 26) C 8 (w_8 _ _) rfl 6 (Nat.le_of_ble_eq_true rfl) in_X6_X6_addPart k64_X6_addPart rfl dX6_addPart_26 ?_
  refine g_iload (pc := 29) C dX6_addPart_29 4 rfl ?_
  refine g_iadd (pc := 31) C dX6_addPart_31 ?_
  refine g_put (pc := 32) C 8 (w_8 _ _) rfl 6 (Nat.le_of_ble_eq_true rfl) in_X6_X6_addPart tyX6_ok nmX6 k64_X6_addPart rfl rfl rfl (Nat.le_of_ble_eq_true rfl) (ws_8_6 _ _ _) dX6_addPart_32 h (fun S2 h => ?_)
  refine g_aload_n (pc := 35) C dX6_addPart_35 rfl 0 rfl ?_
  refine g_dup (pc := 36) C dX6_addPart_36 rfl ?_
  refine g_get (pc := 37) C 8 (w_8 _ _) rfl 7 (Nat.le_of_ble_eq_true rfl) in_X6_X6_addPart k47_X6_addPart rfl dX6_addPart_37 ?_
  refine g_iload (pc := 40) C dX6_addPart_40 4 rfl ?_
  refine g_isub (pc := 42) C dX6_addPart_42 ?_
  refine g_put (pc := 43) C 8 (w_8 _ _) rfl 7 (Nat.le_of_ble_eq_true rfl) in_X6_X6_addPart tyX6_ok nmX6 k47_X6_addPart rfl rfl rfl (Nat.le_of_ble_eq_true rfl) (ws_8_7 _ _ _) dX6_addPart_43 h (fun S3 h => ?_)
  exact g_vret (pc := 46) C h dX6_addPart_46
theorem c_X6_addPart (l : Launch) (b : Bw) (a1 : Int32) (a2 : Int32) (a3 : Int32) (a4 : Int32) (S : St) : Ct l b yX6_addPart wsX6_addPart rmX6_addPart [.ref (bad b 8), .int a1, .int a2, .int a3, .int a4] S mkV (f_X6_addPart a1 a2 a3 a4 S) := Ct.of (by decide +kernel) rfl (Nat.le_of_ble_eq_true rfl) (fun X C hl hb r h => by
  subst hl; subst hb
  exact s_X6_addPart_b0 C a1 a2 a3 a4 S h)
/-! StyleRows$Performer.addTurn(LStyleRows$Rules;)Z -/
set_option maxRecDepth 100000 in
set_option maxHeartbeats 4000000 in
theorem s_X6_addTurn_b0 {X : MC} (C : Cx X cX6_addTurn RX6 wsX6_addTurn 3 rmX6_addTurn (some .boolean)) (S : St) {r0 : Int32 × St} (h : f_X6_addTurn_b0 S = some r0) : G X (QM mkI X r0) S 0 [(0, .ref (ad X 8)), (1, .ref (ad X 6))] [] := by
  unfold f_X6_addTurn_b0 at h
  refine g_aload_n (pc := 0) C dX6_addTurn_0 rfl 0 rfl ?_
  refine g_get (pc := 1) C 8 (w_8 _ _) rfl 7 (Nat.le_of_ble_eq_true rfl) in_X6_X6_addTurn k47_X6_addTurn rfl dX6_addTurn_1 ?_
  refine g_iconst (pc := 4) (v := 3) C dX6_addTurn_4 (by decide) ?_
  refine g_icmp_ge (pc := 5) (tgt := 10) C h dX6_addTurn_5 (by decide) (fun h => ?_) (fun h => ?_)
  · refine g_aload_n (pc := 10) C dX6_addTurn_10 rfl 1 rfl ?_
    refine g_aload_n (pc := 11) C dX6_addTurn_11 rfl 0 rfl ?_
    refine g_get (pc := 12) C 8 (w_8 _ _) rfl 2 (Nat.le_of_ble_eq_true rfl) in_X6_X6_addTurn k77_X6_addTurn rfl dX6_addTurn_12 ?_
    refine g_bipush (pc := 15) (v := 9) C dX6_addTurn_15 (by decide) ?_
    refine g_callV (pc := 17) C 6 (c_X8_numberFor (Xl X) (Xb X) (gI S 13) 9 S) gX6_addTurn_X8_numberFor rfl rfl rfl hd_X8_numberFor ⟨Nat.le_of_ble_eq_true rfl, Nat.le_of_ble_eq_true rfl⟩ (w_6 _ _) rfl rfl rfl (Nat.le_of_ble_eq_true rfl) dX6_addTurn_17 h (fun r2 S1 h => ?_)
    change G X _ S1 20 [(0, .ref (ad X 8)), (1, .ref (ad X 6))] [.int r2]
    refine g_aload_n (pc := 20) C dX6_addTurn_20 rfl 0 rfl ?_
    refine g_get (pc := 21) C 8 (w_8 _ _) rfl 7 (Nat.le_of_ble_eq_true rfl) in_X6_X6_addTurn k47_X6_addTurn rfl dX6_addTurn_21 ?_
    refine g_iconst (pc := 24) (v := 3) C dX6_addTurn_24 (by decide) ?_
    refine g_idiv (pc := 25) C h dX6_addTurn_25 (fun h => ?_)
    refine g_mmin (pc := 26) C k103_X6_addTurn kstmin_X6_addTurn kini_X6_addTurn kcomin_X6_addTurn (Nat.le_of_ble_eq_true rfl) (Nat.le_of_ble_eq_true rfl) dX6_addTurn_26 ?_
    refine g_leti h (fun x3 h => ?_)
    refine g_istore_n (pc := 29) C [(2, .int x3), (0, .ref (ad X 8)), (1, .ref (ad X 6))] dX6_addTurn_29 rfl (Nat.le_of_ble_eq_true rfl) rfl ?_
    refine g_aload_n (pc := 30) C dX6_addTurn_30 rfl 1 rfl ?_
    refine g_iconst (pc := 31) (v := 3) C dX6_addTurn_31 (by decide) ?_
    refine g_aload_n (pc := 32) C dX6_addTurn_32 rfl 1 rfl ?_
    refine g_get (pc := 33) C 8 (w_8 _ _) rfl 3 (Nat.le_of_ble_eq_true rfl) in_X6_X6_addTurn k83_X6_addTurn rfl dX6_addTurn_33 ?_
    refine g_aload_n (pc := 36) C dX6_addTurn_36 rfl 1 rfl ?_
    refine g_get (pc := 37) C 8 (w_8 _ _) rfl 5 (Nat.le_of_ble_eq_true rfl) in_X6_X6_addTurn k57_X6_addTurn rfl dX6_addTurn_37 ?_
    refine g_iload_n (pc := 40) C dX6_addTurn_40 rfl 0 rfl ?_
    refine g_callV (pc := 41) C 8 (c_X6_addPart (Xl X) (Xb X) 3 (gI S1 14) (gI S1 16) x3 S1) gX6_addTurn_X6_addPart rfl rfl rfl hd_X6_addPart ⟨Nat.le_of_ble_eq_true rfl, Nat.le_of_ble_eq_true rfl⟩ (w_8 _ _) rfl rfl rfl (Nat.le_of_ble_eq_true rfl) dX6_addTurn_41 h (fun _u4 S4 h => ?_)
    change G X _ S4 44 [(2, .int x3), (0, .ref (ad X 8)), (1, .ref (ad X 6))] []
    refine g_aload_n (pc := 44) C dX6_addTurn_44 rfl 1 rfl ?_
    refine g_iconst (pc := 45) (v := 3) C dX6_addTurn_45 (by decide) ?_
    refine g_aload_n (pc := 46) C dX6_addTurn_46 rfl 1 rfl ?_
    refine g_get (pc := 47) C 8 (w_8 _ _) rfl 3 (Nat.le_of_ble_eq_true rfl) in_X6_X6_addTurn k83_X6_addTurn rfl dX6_addTurn_47 ?_
    refine g_iconst (pc := 50) (v := 2) C dX6_addTurn_50 (by decide) ?_
    refine g_isub (pc := 51) C dX6_addTurn_51 ?_
    refine g_aload_n (pc := 52) C dX6_addTurn_52 rfl 1 rfl ?_
    refine g_get (pc := 53) C 8 (w_8 _ _) rfl 5 (Nat.le_of_ble_eq_true rfl) in_X6_X6_addTurn k57_X6_addTurn rfl dX6_addTurn_53 ?_
    refine g_iload_n (pc := 56) C dX6_addTurn_56 rfl 0 rfl ?_
    refine g_callV (pc := 57) C 8 (c_X6_addPart (Xl X) (Xb X) 3 ((gI S4 14) - 2) (gI S4 16) x3 S4) gX6_addTurn_X6_addPart rfl rfl rfl hd_X6_addPart ⟨Nat.le_of_ble_eq_true rfl, Nat.le_of_ble_eq_true rfl⟩ (w_8 _ _) rfl rfl rfl (Nat.le_of_ble_eq_true rfl) dX6_addTurn_57 h (fun _u5 S5 h => ?_)
    change G X _ S5 60 [(2, .int x3), (0, .ref (ad X 8)), (1, .ref (ad X 6))] []
    refine g_aload_n (pc := 60) C dX6_addTurn_60 rfl 1 rfl ?_
    refine g_iconst (pc := 61) (v := 3) C dX6_addTurn_61 (by decide) ?_
    refine g_aload_n (pc := 62) C dX6_addTurn_62 rfl 1 rfl ?_
    refine g_get (pc := 63) C 8 (w_8 _ _) rfl 3 (Nat.le_of_ble_eq_true rfl) in_X6_X6_addTurn k83_X6_addTurn rfl dX6_addTurn_63 ?_
    refine g_aload_n (pc := 66) C dX6_addTurn_66 rfl 1 rfl ?_
    refine g_get (pc := 67) C 8 (w_8 _ _) rfl 5 (Nat.le_of_ble_eq_true rfl) in_X6_X6_addTurn k57_X6_addTurn rfl dX6_addTurn_67 ?_
    refine g_aload_n (pc := 70) C dX6_addTurn_70 rfl 1 rfl ?_
    refine g_get (pc := 71) C 8 (w_8 _ _) rfl 7 (Nat.le_of_ble_eq_true rfl) in_X6_X6_addTurn k47_X6_addTurn rfl dX6_addTurn_71 ?_
    refine g_callV (pc := 74) C 8 (c_X6_addPart (Xl X) (Xb X) 3 (gI S5 14) (gI S5 16) (gI S5 18) S5) gX6_addTurn_X6_addPart rfl rfl rfl hd_X6_addPart ⟨Nat.le_of_ble_eq_true rfl, Nat.le_of_ble_eq_true rfl⟩ (w_8 _ _) rfl rfl rfl (Nat.le_of_ble_eq_true rfl) dX6_addTurn_74 h (fun _u6 S6 h => ?_)
    change G X _ S6 77 [(2, .int x3), (0, .ref (ad X 8)), (1, .ref (ad X 6))] []
    refine g_iconst (pc := 77) (v := 1) C dX6_addTurn_77 (by decide) ?_
    exact g_zretc (pc := 78) C rfl h dX6_addTurn_78
  · refine g_iconst (pc := 8) (v := 0) C dX6_addTurn_8 (by decide) ?_
    exact g_zretc (pc := 9) C rfl h dX6_addTurn_9
theorem c_X6_addTurn (l : Launch) (b : Bw) (S : St) : Ct l b yX6_addTurn wsX6_addTurn rmX6_addTurn [.ref (bad b 8), .ref (bad b 6)] S mkI (f_X6_addTurn S) := Ct.of (by decide +kernel) rfl (Nat.le_of_ble_eq_true rfl) (fun X C hl hb r h => by
  subst hl; subst hb
  exact s_X6_addTurn_b0 C S h)
/-! StyleRows$Performer.addTrill(LStyleRows$Rules;)Z -/
set_option maxRecDepth 100000 in
set_option maxHeartbeats 4000000 in
theorem s_X6_addTrill_b129 {X : MC} (C : Cx X cX6_addTrill RX6 wsX6_addTrill 7 rmX6_addTrill (some .boolean)) {rec85 : Int32 × Int32 × St → Option (Int32 × St)} (v2 : Int32) (v3 : Int32) (v6 : Int32) (w0 : Int32) (hrec85 : ∀ (s : Int32 × Int32 × St) (r : Int32 × St), rec85 s = some r → G X (QM mkI X r) s.2.2 85 [(0, .ref (ad X 8)), (2, .int v2), (3, .int v3), (4, .int (s.1)), (6, .int (s.2.1))] []) (S : St) {r0 : Int32 × St} (h : f_X6_addTrill_b129 rec85 v2 v3 v6 w0 S = some r0) : G X (QM mkI X r0) S 129 [(0, .ref (ad X 8)), (2, .int v2), (3, .int v3), (6, .int v6)] [.int w0] := by
  unfold f_X6_addTrill_b129 at h
  refine g_istore (pc := 129) C [(4, .int w0), (0, .ref (ad X 8)), (2, .int v2), (3, .int v3), (6, .int v6)] dX6_addTrill_129 (Nat.le_of_ble_eq_true rfl) rfl ?_
  refine g_iinc (pc := 131) (v := v6 + 1) C [(6, .int (v6 + 1)), (4, .int w0), (0, .ref (ad X 8)), (2, .int v2), (3, .int v3)] dX6_addTrill_131 4 rfl rfl (Nat.le_of_ble_eq_true rfl) rfl ?_
  refine g_goto (pc := 134) (tgt := 85) C dX6_addTrill_134 (by decide) ?_
  refine g_weak (lv1 := [(0, .ref (ad X 8)), (2, .int v2), (3, .int v3), (4, .int w0), (6, .int (v6 + 1))]) [2, 3, 4, 1, 0] rfl ?_
  exact hrec85 (w0, v6 + 1, S) _ h
set_option maxRecDepth 100000 in
set_option maxHeartbeats 4000000 in
theorem s_X6_addTrill_b111 {X : MC} (C : Cx X cX6_addTrill RX6 wsX6_addTrill 7 rmX6_addTrill (some .boolean)) {rec85 : Int32 × Int32 × St → Option (Int32 × St)} (v2 : Int32) (v3 : Int32) (v4 : Int32) (v6 : Int32) (w1 : Int32) (w2 : Int32) (hrec85 : ∀ (s : Int32 × Int32 × St) (r : Int32 × St), rec85 s = some r → G X (QM mkI X r) s.2.2 85 [(0, .ref (ad X 8)), (2, .int v2), (3, .int v3), (4, .int (s.1)), (6, .int (s.2.1))] []) (S : St) {r0 : Int32 × St} (h : f_X6_addTrill_b111 rec85 v2 v3 v4 v6 w1 w2 S = some r0) : G X (QM mkI X r0) S 111 [(0, .ref (ad X 8)), (2, .int v2), (3, .int v3), (4, .int v4), (6, .int v6)] [.int w2, .int w1, .ref (ad X 8)] := by
  unfold f_X6_addTrill_b111 at h
  refine g_aload_n (pc := 111) C dX6_addTrill_111 rfl 0 rfl ?_
  refine g_get (pc := 112) C 8 (w_8 _ _) rfl 5 (Nat.le_of_ble_eq_true rfl) in_X6_X6_addTrill k57_X6_addTrill rfl dX6_addTrill_112 ?_
  refine g_iload_n (pc := 115) C dX6_addTrill_115 rfl 1 rfl ?_
  refine g_callV (pc := 116) C 8 (c_X6_addPart (Xl X) (Xb X) w1 w2 (gI S 16) v2 S) gX6_addTrill_X6_addPart rfl rfl rfl hd_X6_addPart ⟨Nat.le_of_ble_eq_true rfl, Nat.le_of_ble_eq_true rfl⟩ (w_8 _ _) rfl rfl rfl (Nat.le_of_ble_eq_true rfl) dX6_addTrill_116 h (fun _u8 S8 h => ?_)
  change G X _ S8 119 [(0, .ref (ad X 8)), (2, .int v2), (3, .int v3), (4, .int v4), (6, .int v6)] []
  refine g_iload (pc := 119) C dX6_addTrill_119 3 rfl ?_
  refine g_if_ne (pc := 121) (tgt := 128) C h dX6_addTrill_121 (by decide) (fun h => ?_) (fun h => ?_)
  · refine g_iconst (pc := 128) (v := 0) C dX6_addTrill_128 (by decide) ?_
    refine g_weak (lv1 := [(0, .ref (ad X 8)), (2, .int v2), (3, .int v3), (6, .int v6)]) [0, 1, 2, 4] rfl ?_
    exact s_X6_addTrill_b129 C v2 v3 v6 0 hrec85  S8 h
  · refine g_iconst (pc := 124) (v := 1) C dX6_addTrill_124 (by decide) ?_
    refine g_goto (pc := 125) (tgt := 129) C dX6_addTrill_125 (by decide) ?_
    refine g_weak (lv1 := [(0, .ref (ad X 8)), (2, .int v2), (3, .int v3), (6, .int v6)]) [0, 1, 2, 4] rfl ?_
    exact s_X6_addTrill_b129 C v2 v3 v6 1 hrec85  S8 h
set_option maxRecDepth 100000 in
set_option maxHeartbeats 4000000 in
theorem s_X6_addTrill_b85 {X : MC} (C : Cx X cX6_addTrill RX6 wsX6_addTrill 7 rmX6_addTrill (some .boolean)) {rec85 : Int32 × Int32 × St → Option (Int32 × St)} (v2 : Int32) (v3 : Int32) (v4 : Int32) (v6 : Int32) (hrec85 : ∀ (s : Int32 × Int32 × St) (r : Int32 × St), rec85 s = some r → G X (QM mkI X r) s.2.2 85 [(0, .ref (ad X 8)), (2, .int v2), (3, .int v3), (4, .int (s.1)), (6, .int (s.2.1))] []) (S : St) {r0 : Int32 × St} (h : f_X6_addTrill_b85 rec85 v2 v3 v4 v6 S = some r0) : G X (QM mkI X r0) S 85 [(0, .ref (ad X 8)), (2, .int v2), (3, .int v3), (4, .int v4), (6, .int v6)] [] := by
  unfold f_X6_addTrill_b85 at h
  refine g_iload (pc := 85) C dX6_addTrill_85 4 rfl ?_
  refine g_iload_n (pc := 87) C dX6_addTrill_87 rfl 2 rfl ?_
  refine g_icmp_ge (pc := 88) (tgt := 137) C h dX6_addTrill_88 (by decide) (fun h => ?_) (fun h => ?_)
  · refine g_aload_n (pc := 137) C dX6_addTrill_137 rfl 0 rfl ?_
    refine g_iconst (pc := 138) (v := 2) C dX6_addTrill_138 (by decide) ?_
    refine g_aload_n (pc := 139) C dX6_addTrill_139 rfl 0 rfl ?_
    refine g_get (pc := 140) C 8 (w_8 _ _) rfl 3 (Nat.le_of_ble_eq_true rfl) in_X6_X6_addTrill k83_X6_addTrill rfl dX6_addTrill_140 ?_
    refine g_aload_n (pc := 143) C dX6_addTrill_143 rfl 0 rfl ?_
    refine g_get (pc := 144) C 8 (w_8 _ _) rfl 5 (Nat.le_of_ble_eq_true rfl) in_X6_X6_addTrill k57_X6_addTrill rfl dX6_addTrill_144 ?_
    refine g_aload_n (pc := 147) C dX6_addTrill_147 rfl 0 rfl ?_
    refine g_get (pc := 148) C 8 (w_8 _ _) rfl 7 (Nat.le_of_ble_eq_true rfl) in_X6_X6_addTrill k47_X6_addTrill rfl dX6_addTrill_148 ?_
    refine g_callV (pc := 151) C 8 (c_X6_addPart (Xl X) (Xb X) 2 (gI S 14) (gI S 16) (gI S 18) S) gX6_addTrill_X6_addPart rfl rfl rfl hd_X6_addPart ⟨Nat.le_of_ble_eq_true rfl, Nat.le_of_ble_eq_true rfl⟩ (w_8 _ _) rfl rfl rfl (Nat.le_of_ble_eq_true rfl) dX6_addTrill_151 h (fun _u7 S7 h => ?_)
    change G X _ S7 154 [(0, .ref (ad X 8)), (2, .int v2), (3, .int v3), (4, .int v4), (6, .int v6)] []
    refine g_iconst (pc := 154) (v := 1) C dX6_addTrill_154 (by decide) ?_
    exact g_zretc (pc := 155) C rfl h dX6_addTrill_155
  · refine g_aload_n (pc := 91) C dX6_addTrill_91 rfl 0 rfl ?_
    refine g_iconst (pc := 92) (v := 2) C dX6_addTrill_92 (by decide) ?_
    refine g_iload (pc := 93) C dX6_addTrill_93 3 rfl ?_
    refine g_if_eq (pc := 95) (tgt := 107) C h dX6_addTrill_95 (by decide) (fun h => ?_) (fun h => ?_)
    · refine g_aload_n (pc := 107) C dX6_addTrill_107 rfl 0 rfl ?_
      refine g_get (pc := 108) C 8 (w_8 _ _) rfl 3 (Nat.le_of_ble_eq_true rfl) in_X6_X6_addTrill k83_X6_addTrill rfl dX6_addTrill_108 ?_
      refine g_weak (lv1 := [(0, .ref (ad X 8)), (2, .int v2), (3, .int v3), (4, .int v4), (6, .int v6)]) [0, 1, 2, 3, 4] rfl ?_
      exact s_X6_addTrill_b111 C v2 v3 v4 v6 2 (gI S 14) hrec85  S h
    · refine g_aload_n (pc := 98) C dX6_addTrill_98 rfl 0 rfl ?_
      refine g_get (pc := 99) C 8 (w_8 _ _) rfl 3 (Nat.le_of_ble_eq_true rfl) in_X6_X6_addTrill k83_X6_addTrill rfl dX6_addTrill_99 ?_
      refine g_iconst (pc := 102) (v := 2) C dX6_addTrill_102 (by decide) ?_
      refine g_iadd (pc := 103) C dX6_addTrill_103 ?_
      refine g_goto (pc := 104) (tgt := 111) C dX6_addTrill_104 (by decide) ?_
      refine g_weak (lv1 := [(0, .ref (ad X 8)), (2, .int v2), (3, .int v3), (4, .int v4), (6, .int v6)]) [0, 1, 2, 3, 4] rfl ?_
      exact s_X6_addTrill_b111 C v2 v3 v4 v6 2 ((gI S 14) + 2) hrec85  S h
set_option maxRecDepth 100000 in
set_option maxHeartbeats 4000000 in
theorem s_X6_addTrill_l85 {X : MC} (C : Cx X cX6_addTrill RX6 wsX6_addTrill 7 rmX6_addTrill (some .boolean)) (v2 : Int32) (v3 : Int32) : ∀ (n : Nat) (s : Int32 × Int32 × St) (r : Int32 × St), f_X6_addTrill_l85 v2 v3 n s = some r → G X (QM mkI X r) s.2.2 85 [(0, .ref (ad X 8)), (2, .int v2), (3, .int v3), (4, .int (s.1)), (6, .int (s.2.1))] [] :=
  loop_sound (fun rec85 hrec85 s r h => s_X6_addTrill_b85 C v2 v3 s.1 s.2.1 hrec85 s.2.2 h)
set_option maxRecDepth 100000 in
set_option maxHeartbeats 4000000 in
theorem s_X6_addTrill_b82 {X : MC} (C : Cx X cX6_addTrill RX6 wsX6_addTrill 7 rmX6_addTrill (some .boolean)) (v2 : Int32) (v3 : Int32) (v4 : Int32) (S : St) {r0 : Int32 × St} (h : f_X6_addTrill_b82 v2 v3 v4 S = some r0) : G X (QM mkI X r0) S 82 [(0, .ref (ad X 8)), (2, .int v2), (3, .int v3), (4, .int v4)] [] := by
  unfold f_X6_addTrill_b82 at h
  refine g_iconst (pc := 82) (v := 1) C dX6_addTrill_82 (by decide) ?_
  refine g_istore (pc := 83) C [(6, .int 1), (0, .ref (ad X 8)), (2, .int v2), (3, .int v3), (4, .int v4)] dX6_addTrill_83 (Nat.le_of_ble_eq_true rfl) rfl ?_
  refine g_weak (lv1 := [(0, .ref (ad X 8)), (2, .int v2), (3, .int v3), (4, .int v4), (6, .int 1)]) [1, 2, 3, 4, 0] rfl ?_
  exact s_X6_addTrill_l85 C v2 v3 _ (v4, 1, S) _ h
set_option maxRecDepth 100000 in
set_option maxHeartbeats 4000000 in
theorem s_X6_addTrill_b72 {X : MC} (C : Cx X cX6_addTrill RX6 wsX6_addTrill 7 rmX6_addTrill (some .boolean)) (v2 : Int32) (v3 : Int32) (v4 : Int32) (w0 : Int32) (S : St) {r0 : Int32 × St} (h : f_X6_addTrill_b72 v2 v3 v4 w0 S = some r0) : G X (QM mkI X r0) S 72 [(0, .ref (ad X 8)), (2, .int v2), (3, .int v3), (4, .int v4)] [.int w0] := by
  unfold f_X6_addTrill_b72 at h
  refine g_istore (pc := 72) C [(5, .int w0), (0, .ref (ad X 8)), (2, .int v2), (3, .int v3), (4, .int v4)] dX6_addTrill_72 (Nat.le_of_ble_eq_true rfl) rfl ?_
  refine g_iload (pc := 74) C dX6_addTrill_74 0 rfl ?_
  refine g_if_eq (pc := 76) (tgt := 82) C h dX6_addTrill_76 (by decide) (fun h => ?_) (fun h => ?_)
  · refine g_weak (lv1 := [(0, .ref (ad X 8)), (2, .int v2), (3, .int v3), (4, .int v4)]) [1, 2, 3, 4] rfl ?_
    exact s_X6_addTrill_b82 C v2 v3 v4  S h
  · refine g_iinc (pc := 79) (v := v3 + (-1)) C [(3, .int (v3 + (-1))), (5, .int w0), (0, .ref (ad X 8)), (2, .int v2), (4, .int v4)] dX6_addTrill_79 3 rfl rfl (Nat.le_of_ble_eq_true rfl) rfl ?_
    refine g_weak (lv1 := [(0, .ref (ad X 8)), (2, .int v2), (3, .int (v3 + (-1))), (4, .int v4)]) [2, 3, 0, 4] rfl ?_
    exact s_X6_addTrill_b82 C v2 (v3 + (-1)) v4  S h
set_option maxRecDepth 100000 in
set_option maxHeartbeats 4000000 in
theorem s_X6_addTrill_b62 {X : MC} (C : Cx X cX6_addTrill RX6 wsX6_addTrill 7 rmX6_addTrill (some .boolean)) (v2 : Int32) (v3 : Int32) (v4 : Int32) (w0 : Int32) (S : St) {r0 : Int32 × St} (h : f_X6_addTrill_b62 v2 v3 v4 w0 S = some r0) : G X (QM mkI X r0) S 62 [(0, .ref (ad X 8)), (2, .int v2), (3, .int v3), (4, .int v4)] [.int w0] := by
  unfold f_X6_addTrill_b62 at h
  refine g_iload (pc := 62) C dX6_addTrill_62 3 rfl ?_
  refine g_icmp_ne (pc := 64) (tgt := 71) C h dX6_addTrill_64 (by decide) (fun h => ?_) (fun h => ?_)
  · refine g_iconst (pc := 71) (v := 0) C dX6_addTrill_71 (by decide) ?_
    refine g_weak (lv1 := [(0, .ref (ad X 8)), (2, .int v2), (3, .int v3), (4, .int v4)]) [0, 1, 2, 3] rfl ?_
    exact s_X6_addTrill_b72 C v2 v3 v4 0  S h
  · refine g_iconst (pc := 67) (v := 1) C dX6_addTrill_67 (by decide) ?_
    refine g_goto (pc := 68) (tgt := 72) C dX6_addTrill_68 (by decide) ?_
    refine g_weak (lv1 := [(0, .ref (ad X 8)), (2, .int v2), (3, .int v3), (4, .int v4)]) [0, 1, 2, 3] rfl ?_
    exact s_X6_addTrill_b72 C v2 v3 v4 1  S h
set_option maxRecDepth 100000 in
set_option maxHeartbeats 4000000 in
theorem s_X6_addTrill_b48 {X : MC} (C : Cx X cX6_addTrill RX6 wsX6_addTrill 7 rmX6_addTrill (some .boolean)) (v2 : Int32) (v3 : Int32) (w0 : Int32) (S : St) {r0 : Int32 × St} (h : f_X6_addTrill_b48 v2 v3 w0 S = some r0) : G X (QM mkI X r0) S 48 [(0, .ref (ad X 8)), (2, .int v2), (3, .int v3)] [.int w0] := by
  unfold f_X6_addTrill_b48 at h
  refine g_istore (pc := 48) C [(4, .int w0), (0, .ref (ad X 8)), (2, .int v2), (3, .int v3)] dX6_addTrill_48 (Nat.le_of_ble_eq_true rfl) rfl ?_
  refine g_iload_n (pc := 50) C dX6_addTrill_50 rfl 3 rfl ?_
  refine g_iconst (pc := 51) (v := 2) C dX6_addTrill_51 (by decide) ?_
  refine g_irem (pc := 52) C h dX6_addTrill_52 (fun h => ?_)
  refine g_iconst (pc := 53) (v := 1) C dX6_addTrill_53 (by decide) ?_
  refine g_icmp_ne (pc := 54) (tgt := 61) C h dX6_addTrill_54 (by decide) (fun h => ?_) (fun h => ?_)
  · refine g_iconst (pc := 61) (v := 0) C dX6_addTrill_61 (by decide) ?_
    refine g_weak (lv1 := [(0, .ref (ad X 8)), (2, .int v2), (3, .int v3), (4, .int w0)]) [1, 2, 3, 0] rfl ?_
    exact s_X6_addTrill_b62 C v2 v3 w0 0  S h
  · refine g_iconst (pc := 57) (v := 1) C dX6_addTrill_57 (by decide) ?_
    refine g_goto (pc := 58) (tgt := 62) C dX6_addTrill_58 (by decide) ?_
    refine g_weak (lv1 := [(0, .ref (ad X 8)), (2, .int v2), (3, .int v3), (4, .int w0)]) [1, 2, 3, 0] rfl ?_
    exact s_X6_addTrill_b62 C v2 v3 w0 1  S h
set_option maxRecDepth 100000 in
set_option maxHeartbeats 4000000 in
theorem s_X6_addTrill_b0 {X : MC} (C : Cx X cX6_addTrill RX6 wsX6_addTrill 7 rmX6_addTrill (some .boolean)) (S : St) {r0 : Int32 × St} (h : f_X6_addTrill_b0 S = some r0) : G X (QM mkI X r0) S 0 [(0, .ref (ad X 8)), (1, .ref (ad X 6))] [] := by
  unfold f_X6_addTrill_b0 at h
  refine g_aload_n (pc := 0) C dX6_addTrill_0 rfl 1 rfl ?_
  refine g_aload_n (pc := 1) C dX6_addTrill_1 rfl 0 rfl ?_
  refine g_get (pc := 2) C 8 (w_8 _ _) rfl 2 (Nat.le_of_ble_eq_true rfl) in_X6_X6_addTrill k77_X6_addTrill rfl dX6_addTrill_2 ?_
  refine g_bipush (pc := 5) (v := 7) C dX6_addTrill_5 (by decide) ?_
  refine g_callV (pc := 7) C 6 (c_X8_numberFor (Xl X) (Xb X) (gI S 13) 7 S) gX6_addTrill_X8_numberFor rfl rfl rfl hd_X8_numberFor ⟨Nat.le_of_ble_eq_true rfl, Nat.le_of_ble_eq_true rfl⟩ (w_6 _ _) rfl rfl rfl (Nat.le_of_ble_eq_true rfl) dX6_addTrill_7 h (fun r2 S1 h => ?_)
  change G X _ S1 10 [(0, .ref (ad X 8)), (1, .ref (ad X 6))] [.int r2]
  refine g_istore_n (pc := 10) C [(2, .int r2), (0, .ref (ad X 8)), (1, .ref (ad X 6))] dX6_addTrill_10 rfl (Nat.le_of_ble_eq_true rfl) rfl ?_
  refine g_aload_n (pc := 11) C dX6_addTrill_11 rfl 1 rfl ?_
  refine g_get (pc := 12) C 8 (w_8 _ _) rfl 7 (Nat.le_of_ble_eq_true rfl) in_X6_X6_addTrill k47_X6_addTrill rfl dX6_addTrill_12 ?_
  refine g_i2l (pc := 15) C dX6_addTrill_15 ?_
  refine g_iload_n (pc := 16) C dX6_addTrill_16 rfl 0 rfl ?_
  refine g_i2l (pc := 17) C dX6_addTrill_17 ?_
  refine g_callSN (pc := 18) C (c_X11_quotient (Xl X) (Xb X) (Int32.toInt64 (gI S1 18)) (Int32.toInt64 r2) S1) gX6_addTrill_X11_quotient_n162 rfl rfl rfl nw_X6_162 kiniX11_X6_addTrill kstX11_quotient_X6_addTrill hd_X11_quotient ⟨Nat.le_of_ble_eq_true rfl, Nat.le_of_ble_eq_true rfl⟩ rfl rfl (Nat.le_of_ble_eq_true rfl) dX6_addTrill_18 h (fun r4 S3 h => ?_)
  change G X _ S3 21 [(2, .int r2), (0, .ref (ad X 8)), (1, .ref (ad X 6))] [.int r4]
  refine g_istore_n (pc := 21) C [(3, .int r4), (2, .int r2), (0, .ref (ad X 8)), (1, .ref (ad X 6))] dX6_addTrill_21 rfl (Nat.le_of_ble_eq_true rfl) rfl ?_
  refine g_iload_n (pc := 22) C dX6_addTrill_22 rfl 0 rfl ?_
  refine g_iconst (pc := 23) (v := 2) C dX6_addTrill_23 (by decide) ?_
  refine g_icmp_ge (pc := 24) (tgt := 29) C h dX6_addTrill_24 (by decide) (fun h => ?_) (fun h => ?_)
  · refine g_aload_n (pc := 29) C dX6_addTrill_29 rfl 3 rfl ?_
    refine g_aload_n (pc := 30) C dX6_addTrill_30 rfl 2 rfl ?_
    refine g_get (pc := 31) C 8 (w_8 _ _) rfl 2 (Nat.le_of_ble_eq_true rfl) in_X6_X6_addTrill k77_X6_addTrill rfl dX6_addTrill_31 ?_
    refine g_bipush (pc := 34) (v := 8) C dX6_addTrill_34 (by decide) ?_
    refine g_callV (pc := 36) C 6 (c_X8_numberFor (Xl X) (Xb X) (gI S3 13) 8 S3) gX6_addTrill_X8_numberFor rfl rfl rfl hd_X8_numberFor ⟨Nat.le_of_ble_eq_true rfl, Nat.le_of_ble_eq_true rfl⟩ (w_6 _ _) rfl rfl rfl (Nat.le_of_ble_eq_true rfl) dX6_addTrill_36 h (fun r6 S5 h => ?_)
    change G X _ S5 39 [(3, .int r4), (2, .int r2), (0, .ref (ad X 8)), (1, .ref (ad X 6))] [.int r6]
    refine g_iconst (pc := 39) (v := 1) C dX6_addTrill_39 (by decide) ?_
    refine g_icmp_ne (pc := 40) (tgt := 47) C h dX6_addTrill_40 (by decide) (fun h => ?_) (fun h => ?_)
    · refine g_iconst (pc := 47) (v := 0) C dX6_addTrill_47 (by decide) ?_
      refine g_weak (lv1 := [(0, .ref (ad X 8)), (2, .int r2), (3, .int r4)]) [2, 1, 0] rfl ?_
      exact s_X6_addTrill_b48 C r2 r4 0  S5 h
    · refine g_iconst (pc := 43) (v := 1) C dX6_addTrill_43 (by decide) ?_
      refine g_goto (pc := 44) (tgt := 48) C dX6_addTrill_44 (by decide) ?_
      refine g_weak (lv1 := [(0, .ref (ad X 8)), (2, .int r2), (3, .int r4)]) [2, 1, 0] rfl ?_
      exact s_X6_addTrill_b48 C r2 r4 1  S5 h
  · refine g_iconst (pc := 27) (v := 0) C dX6_addTrill_27 (by decide) ?_
    exact g_zretc (pc := 28) C rfl h dX6_addTrill_28
theorem c_X6_addTrill (l : Launch) (b : Bw) (S : St) : Ct l b yX6_addTrill wsX6_addTrill rmX6_addTrill [.ref (bad b 8), .ref (bad b 6)] S mkI (f_X6_addTrill S) := Ct.of (by decide +kernel) rfl (Nat.le_of_ble_eq_true rfl) (fun X C hl hb r h => by
  subst hl; subst hb
  exact s_X6_addTrill_b0 C S h)
