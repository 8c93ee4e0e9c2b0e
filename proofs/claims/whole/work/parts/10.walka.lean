/-! java/lang/Math.floorDiv(JJ)J -/
set_option maxRecDepth 100000 in
set_option maxHeartbeats 4000000 in
theorem s_J9_floorDiv_f86c9_b27 {X : MC} (C : Cx X cJ9_floorDiv_f86c9 RJ9 wsJ9_floorDiv_f86c9 6 rmJ9_floorDiv_f86c9 (some .long)) (v4 : Int64) (S : St) {r0 : Int64 × St} (h : f_J9_floorDiv_f86c9_b27 v4 S = some r0) : G X (QM mkL X r0) S 27 [(4, .long v4)] [] := by
  unfold f_J9_floorDiv_f86c9_b27 at h
  refine g_lload (pc := 27) C dJ9_floorDiv_f86c9_27 0 rfl ?_
  exact g_lret (pc := 29) C h dJ9_floorDiv_f86c9_29
set_option maxRecDepth 100000 in
set_option maxHeartbeats 4000000 in
theorem s_J9_floorDiv_f86c9_b0 {X : MC} (C : Cx X cJ9_floorDiv_f86c9 RJ9 wsJ9_floorDiv_f86c9 6 rmJ9_floorDiv_f86c9 (some .long)) (a1 : Int64) (a2 : Int64) (S : St) {r0 : Int64 × St} (h : f_J9_floorDiv_f86c9_b0 a1 a2 S = some r0) : G X (QM mkL X r0) S 0 [(0, .long a1), (2, .long a2)] [] := by
  unfold f_J9_floorDiv_f86c9_b0 at h
  refine g_lload_n (pc := 0) C dJ9_floorDiv_f86c9_0 rfl 0 rfl ?_
  refine g_lload_n (pc := 1) C dJ9_floorDiv_f86c9_1 rfl 1 rfl ?_
  refine g_ldiv (pc := 2) C h dJ9_floorDiv_f86c9_2 (fun h => ?_)
  refine g_letl h (fun y1 h => ?_)
  refine g_lstore (pc := 3) C [(4, .long y1), (0, .long a1), (2, .long a2)] dJ9_floorDiv_f86c9_3 (Nat.le_of_ble_eq_true rfl) rfl ?_
  refine g_lload_n (pc := 5) C dJ9_floorDiv_f86c9_5 rfl 1 rfl ?_
  refine g_lload_n (pc := 6) C dJ9_floorDiv_f86c9_6 rfl 2 rfl ?_
  refine g_lxor (pc := 7) C dJ9_floorDiv_f86c9_7 ?_
  refine g_lconst (pc := 8) (v := 0) C dJ9_floorDiv_f86c9_8 (by decide) ?_
  refine g_lcmp (pc := 9) C dJ9_floorDiv_f86c9_9 ?_
  refine g_if_ge (pc := 10) (tgt := 27) C h dJ9_floorDiv_f86c9_10 (by decide) (fun h => ?_) (fun h => ?_)
  · refine g_weak (lv1 := [(4, .long y1)]) [0] rfl ?_
    exact s_J9_floorDiv_f86c9_b27 C y1  S h
  · refine g_lload (pc := 13) C dJ9_floorDiv_f86c9_13 0 rfl ?_
    refine g_lload_n (pc := 15) C dJ9_floorDiv_f86c9_15 rfl 2 rfl ?_
    refine g_lmul (pc := 16) C dJ9_floorDiv_f86c9_16 ?_
    refine g_lload_n (pc := 17) C dJ9_floorDiv_f86c9_17 rfl 1 rfl ?_
    refine g_lcmp (pc := 18) C dJ9_floorDiv_f86c9_18 ?_
    refine g_if_eq (pc := 19) (tgt := 27) C h dJ9_floorDiv_f86c9_19 (by decide) (fun h => ?_) (fun h => ?_)
    · refine g_weak (lv1 := [(4, .long y1)]) [0] rfl ?_
      exact s_J9_floorDiv_f86c9_b27 C y1  S h
    · refine g_lload (pc := 22) C dJ9_floorDiv_f86c9_22 0 rfl ?_
      refine g_lconst (pc := 24) (v := 1) C dJ9_floorDiv_f86c9_24 (by decide) ?_
      refine g_lsub (pc := 25) C dJ9_floorDiv_f86c9_25 ?_
      exact g_lret (pc := 26) C h dJ9_floorDiv_f86c9_26
theorem c_J9_floorDiv_f86c9 (l : Launch) (b : Bw) (a1 : Int64) (a2 : Int64) (S : St) : Ct l b yJ9_floorDiv_f86c9 wsJ9_floorDiv_f86c9 rmJ9_floorDiv_f86c9 [.long a1, .long a2] S mkL (f_J9_floorDiv_f86c9 a1 a2 S) := Ct.of (by decide +kernel) rfl (Nat.le_of_ble_eq_true rfl) (fun X C hl hb r h => by
  subst hl; subst hb
  exact s_J9_floorDiv_f86c9_b0 C a1 a2 S h)
/-! java/lang/Math.floorMod(JJ)J -/
set_option maxRecDepth 100000 in
set_option maxHeartbeats 4000000 in
theorem s_J9_floorMod_f86c9_b25 {X : MC} (C : Cx X cJ9_floorMod_f86c9 RJ9 wsJ9_floorMod_f86c9 6 rmJ9_floorMod_f86c9 (some .long)) (v4 : Int64) (S : St) {r0 : Int64 × St} (h : f_J9_floorMod_f86c9_b25 v4 S = some r0) : G X (QM mkL X r0) S 25 [(4, .long v4)] [] := by
  unfold f_J9_floorMod_f86c9_b25 at h
  refine g_lload (pc := 25) C dJ9_floorMod_f86c9_25 0 rfl ?_
  exact g_lret (pc := 27) C h dJ9_floorMod_f86c9_27
set_option maxRecDepth 100000 in
set_option maxHeartbeats 4000000 in
theorem s_J9_floorMod_f86c9_b0 {X : MC} (C : Cx X cJ9_floorMod_f86c9 RJ9 wsJ9_floorMod_f86c9 6 rmJ9_floorMod_f86c9 (some .long)) (a1 : Int64) (a2 : Int64) (S : St) {r0 : Int64 × St} (h : f_J9_floorMod_f86c9_b0 a1 a2 S = some r0) : G X (QM mkL X r0) S 0 [(0, .long a1), (2, .long a2)] [] := by
  unfold f_J9_floorMod_f86c9_b0 at h
  refine g_lload_n (pc := 0) C dJ9_floorMod_f86c9_0 rfl 0 rfl ?_
  refine g_lload_n (pc := 1) C dJ9_floorMod_f86c9_1 rfl 1 rfl ?_
  refine g_lrem (pc := 2) C h dJ9_floorMod_f86c9_2 (fun h => ?_)
  refine g_letl h (fun y1 h => ?_)
  refine g_lstore (pc := 3) C [(4, .long y1), (0, .long a1), (2, .long a2)] dJ9_floorMod_f86c9_3 (Nat.le_of_ble_eq_true rfl) rfl ?_
  refine g_lload_n (pc := 5) C dJ9_floorMod_f86c9_5 rfl 1 rfl ?_
  refine g_lload_n (pc := 6) C dJ9_floorMod_f86c9_6 rfl 2 rfl ?_
  refine g_lxor (pc := 7) C dJ9_floorMod_f86c9_7 ?_
  refine g_lconst (pc := 8) (v := 0) C dJ9_floorMod_f86c9_8 (by decide) ?_
  refine g_lcmp (pc := 9) C dJ9_floorMod_f86c9_9 ?_
  refine g_if_ge (pc := 10) (tgt := 25) C h dJ9_floorMod_f86c9_10 (by decide) (fun h => ?_) (fun h => ?_)
  · refine g_weak (lv1 := [(4, .long y1)]) [0] rfl ?_
    exact s_J9_floorMod_f86c9_b25 C y1  S h
  · refine g_lload (pc := 13) C dJ9_floorMod_f86c9_13 0 rfl ?_
    refine g_lconst (pc := 15) (v := 0) C dJ9_floorMod_f86c9_15 (by decide) ?_
    refine g_lcmp (pc := 16) C dJ9_floorMod_f86c9_16 ?_
    refine g_if_eq (pc := 17) (tgt := 25) C h dJ9_floorMod_f86c9_17 (by decide) (fun h => ?_) (fun h => ?_)
    · refine g_weak (lv1 := [(4, .long y1)]) [0] rfl ?_
      exact s_J9_floorMod_f86c9_b25 C y1  S h
    · refine g_lload (pc := 20) C dJ9_floorMod_f86c9_20 0 rfl ?_
      refine g_lload_n (pc := 22) C dJ9_floorMod_f86c9_22 rfl 2 rfl ?_
      refine g_ladd (pc := 23) C dJ9_floorMod_f86c9_23 ?_
      exact g_lret (pc := 24) C h dJ9_floorMod_f86c9_24
theorem c_J9_floorMod_f86c9 (l : Launch) (b : Bw) (a1 : Int64) (a2 : Int64) (S : St) : Ct l b yJ9_floorMod_f86c9 wsJ9_floorMod_f86c9 rmJ9_floorMod_f86c9 [.long a1, .long a2] S mkL (f_J9_floorMod_f86c9 a1 a2 S) := Ct.of (by decide +kernel) rfl (Nat.le_of_ble_eq_true rfl) (fun X C hl hb r h => by
  subst hl; subst hb
  exact s_J9_floorMod_f86c9_b0 C a1 a2 S h)
/-! java/lang/Math.floorMod(JI)I -/
set_option maxRecDepth 100000 in
set_option maxHeartbeats 4000000 in
theorem s_J9_floorMod_1978a_b0 {X : MC} (C : Cx X cJ9_floorMod_1978a RJ9 wsJ9_floorMod_1978a 3 rmJ9_floorMod_1978a (some .int)) (a1 : Int64) (a2 : Int32) (S : St) {r0 : Int32 × St} (h : f_J9_floorMod_1978a_b0 a1 a2 S = some r0) : G X (QM mkI X r0) S 0 [(0, .long a1), (2, .int a2)] [] := by
  unfold f_J9_floorMod_1978a_b0 at h
  refine g_lload_n (pc := 0) C dJ9_floorMod_1978a_0 rfl 0 rfl ?_
  refine g_iload_n (pc := 1) C dJ9_floorMod_1978a_1 rfl 1 rfl ?_
  refine g_i2l (pc := 2) C dJ9_floorMod_1978a_2 ?_
  refine g_callS (pc := 3) C (c_J9_floorMod_f86c9 (Xl X) (Xb X) a1 (Int32.toInt64 a2) S) gJ9_floorMod_1978a_J9_floorMod_f86c9 rfl rfl rfl hd_J9_floorMod_f86c9 ⟨Nat.le_of_ble_eq_true rfl, Nat.le_of_ble_eq_true rfl⟩ rfl rfl (Nat.le_of_ble_eq_true rfl) dJ9_floorMod_1978a_3 h (fun r2 S1 h => ?_)
  change G X _ S1 6 [(0, .long a1), (2, .int a2)] [.long r2]
  refine g_l2i (pc := 6) C dJ9_floorMod_1978a_6 ?_
  exact g_iret (pc := 7) C h dJ9_floorMod_1978a_7
theorem c_J9_floorMod_1978a (l : Launch) (b : Bw) (a1 : Int64) (a2 : Int32) (S : St) : Ct l b yJ9_floorMod_1978a wsJ9_floorMod_1978a rmJ9_floorMod_1978a [.long a1, .int a2] S mkI (f_J9_floorMod_1978a a1 a2 S) := Ct.of (by decide +kernel) rfl (Nat.le_of_ble_eq_true rfl) (fun X C hl hb r h => by
  subst hl; subst hb
  exact s_J9_floorMod_1978a_b0 C a1 a2 S h)
/-! StyleRows.isWithin(III)Z -/
set_option maxRecDepth 100000 in
set_option maxHeartbeats 4000000 in
theorem s_X11_isWithin_b15 {X : MC} (C : Cx X cX11_isWithin RX11 wsX11_isWithin 3 rmX11_isWithin (some .boolean)) (w0 : Int32) (S : St) {r0 : Int32 × St} (h : f_X11_isWithin_b15 w0 S = some r0) : G X (QM mkI X r0) S 15 [] [.int w0] := by
  unfold f_X11_isWithin_b15 at h
  exact g_zret (pc := 15) C h dX11_isWithin_15
set_option maxRecDepth 100000 in
set_option maxHeartbeats 4000000 in
theorem s_X11_isWithin_b14 {X : MC} (C : Cx X cX11_isWithin RX11 wsX11_isWithin 3 rmX11_isWithin (some .boolean)) (S : St) {r0 : Int32 × St} (h : f_X11_isWithin_b14 S = some r0) : G X (QM mkI X r0) S 14 [] [] := by
  unfold f_X11_isWithin_b14 at h
  refine g_iconst (pc := 14) (v := 0) C dX11_isWithin_14 (by decide) ?_
  refine g_weak (lv1 := []) [] rfl ?_
  exact s_X11_isWithin_b15 C 0  S h
set_option maxRecDepth 100000 in
set_option maxHeartbeats 4000000 in
theorem s_X11_isWithin_b0 {X : MC} (C : Cx X cX11_isWithin RX11 wsX11_isWithin 3 rmX11_isWithin (some .boolean)) (a1 : Int32) (a2 : Int32) (a3 : Int32) (S : St) {r0 : Int32 × St} (h : f_X11_isWithin_b0 a1 a2 a3 S = some r0) : G X (QM mkI X r0) S 0 [(0, .int a1), (1, .int a2), (2, .int a3)] [] := by
  unfold f_X11_isWithin_b0 at h
  refine g_iload_n (pc := 0) C dX11_isWithin_0 rfl 1 rfl ?_
  refine g_iload_n (pc := 1) C dX11_isWithin_1 rfl 0 rfl ?_
  refine g_icmp_gt (pc := 2) (tgt := 14) C h dX11_isWithin_2 (by decide) (fun h => ?_) (fun h => ?_)
  · refine g_weak (lv1 := []) [] rfl ?_
    exact s_X11_isWithin_b14 C   S h
  · refine g_iload_n (pc := 5) C dX11_isWithin_5 rfl 0 rfl ?_
    refine g_iload_n (pc := 6) C dX11_isWithin_6 rfl 2 rfl ?_
    refine g_icmp_gt (pc := 7) (tgt := 14) C h dX11_isWithin_7 (by decide) (fun h => ?_) (fun h => ?_)
    · refine g_weak (lv1 := []) [] rfl ?_
      exact s_X11_isWithin_b14 C   S h
    · refine g_iconst (pc := 10) (v := 1) C dX11_isWithin_10 (by decide) ?_
      refine g_goto (pc := 11) (tgt := 15) C dX11_isWithin_11 (by decide) ?_
      refine g_weak (lv1 := []) [] rfl ?_
      exact s_X11_isWithin_b15 C 1  S h
theorem c_X11_isWithin (l : Launch) (b : Bw) (a1 : Int32) (a2 : Int32) (a3 : Int32) (S : St) : Ct l b yX11_isWithin wsX11_isWithin rmX11_isWithin [.int a1, .int a2, .int a3] S mkI (f_X11_isWithin a1 a2 a3 S) := Ct.of (by decide +kernel) rfl (Nat.le_of_ble_eq_true rfl) (fun X C hl hb r h => by
  subst hl; subst hb
  exact s_X11_isWithin_b0 C a1 a2 a3 S h)
/-! StyleRows.isVoice(I)Z -/
set_option maxRecDepth 100000 in
set_option maxHeartbeats 4000000 in
theorem s_X11_isVoice_b0 {X : MC} (C : Cx X cX11_isVoice RX11 wsX11_isVoice 1 rmX11_isVoice (some .boolean)) (a1 : Int32) (S : St) {r0 : Int32 × St} (h : f_X11_isVoice_b0 a1 S = some r0) : G X (QM mkI X r0) S 0 [(0, .int a1)] [] := by
  unfold f_X11_isVoice_b0 at h
  refine g_iload_n (pc := 0) C dX11_isVoice_0 rfl 0 rfl ?_
  refine g_iconst (pc := 1) (v := 0) C dX11_isVoice_1 (by decide) ?_
  refine g_iconst (pc := 2) (v := 3) C dX11_isVoice_2 (by decide) ?_
  refine g_callS (pc := 3) C (c_X11_isWithin (Xl X) (Xb X) a1 0 3 S) gX11_isVoice_X11_isWithin rfl rfl rfl hd_X11_isWithin ⟨Nat.le_of_ble_eq_true rfl, Nat.le_of_ble_eq_true rfl⟩ rfl rfl (Nat.le_of_ble_eq_true rfl) dX11_isVoice_3 h (fun r2 S1 h => ?_)
  change G X _ S1 6 [(0, .int a1)] [.int r2]
  exact g_zret (pc := 6) C h dX11_isVoice_6
theorem c_X11_isVoice (l : Launch) (b : Bw) (a1 : Int32) (S : St) : Ct l b yX11_isVoice wsX11_isVoice rmX11_isVoice [.int a1] S mkI (f_X11_isVoice a1 S) := Ct.of (by decide +kernel) rfl (Nat.le_of_ble_eq_true rfl) (fun X C hl hb r h => by
  subst hl; subst hb
  exact s_X11_isVoice_b0 C a1 S h)
/-! StyleRows$Notes.add(IIIII)I -/
set_option maxRecDepth 100000 in
set_option maxHeartbeats 4000000 in
theorem s_X4_add_b0 {X : MC} (C : Cx X cX4_add RX4 wsX4_add 6 rmX4_add (some .int)) (a1 : Int32) (a2 : Int32) (a3 : Int32) (a4 : Int32) (a5 : Int32) (S : St) {r0 : Int32 × St} (h : f_X4_add_b0 a1 a2 a3 a4 a5 S = some r0) : G X (QM mkI X r0) S 0 [(0, .ref (ad X 2)), (1, .int a1), (2, .int a2), (3, .int a3), (4, .int a4), (5, .int a5)] [] := by
  unfold f_X4_add_b0 at h
  refine g_aload_n (pc := 0) C dX4_add_0 rfl 0 rfl ?_
  refine g_get (pc := 1) C 2 (w_2 _ _) rfl 5 (Nat.le_of_ble_eq_true rfl) in_X4_X4_add k27_X4_add rfl dX4_add_1 ?_
  refine g_bipush (pc := 4) (v := 48) C dX4_add_4 (by decide) ?_
  refine g_icmp_lt (pc := 6) (tgt := 13) C h dX4_add_6 (by decide) (fun h => ?_) (fun h => ?_)
  · refine g_aload_n (pc := 13) C dX4_add_13 rfl 0 rfl ?_
    refine g_get (pc := 14) C 2 (w_2 _ _) rfl 0 (Nat.le_of_ble_eq_true rfl) in_X4_X4_add k11_X4_add rfl dX4_add_14 ?_
    refine g_aload_n (pc := 17) C dX4_add_17 rfl 0 rfl ?_
    refine g_get (pc := 18) C 2 (w_2 _ _) rfl 5 (Nat.le_of_ble_eq_true rfl) in_X4_X4_add k27_X4_add rfl dX4_add_18 ?_
    refine g_iload_n (pc := 21) C dX4_add_21 rfl 1 rfl ?_
    refine g_iast (pc := 22) C 13 (w_13 _ _) (ws_13 _ _) h dX4_add_22 (fun S1 h => ?_)
    refine g_aload_n (pc := 23) C dX4_add_23 rfl 0 rfl ?_
    refine g_get (pc := 24) C 2 (w_2 _ _) rfl 1 (Nat.le_of_ble_eq_true rfl) in_X4_X4_add k15_X4_add rfl dX4_add_24 ?_
    refine g_aload_n (pc := 27) C dX4_add_27 rfl 0 rfl ?_
    refine g_get (pc := 28) C 2 (w_2 _ _) rfl 5 (Nat.le_of_ble_eq_true rfl) in_X4_X4_add k27_X4_add rfl dX4_add_28 ?_
    refine g_iload_n (pc := 31) C dX4_add_31 rfl 2 rfl ?_
    refine g_iast (pc := 32) C 14 (w_14 _ _) (ws_14 _ _) h dX4_add_32 (fun S2 h => ?_)
    refine g_aload_n (pc := 33) C dX4_add_33 rfl 0 rfl ?_
    refine g_get (pc := 34) C 2 (w_2 _ _) rfl 2 (Nat.le_of_ble_eq_true rfl) in_X4_X4_add k18_X4_add rfl dX4_add_34 ?_
    refine g_aload_n (pc := 37) C dX4_add_37 rfl 0 rfl ?_
    refine g_get (pc := 38) C 2 (w_2 _ _) rfl 5 (Nat.le_of_ble_eq_true rfl) in_X4_X4_add k27_X4_add rfl dX4_add_38 ?_
    refine g_iload_n (pc := 41) C dX4_add_41 rfl 3 rfl ?_
    refine g_iast (pc := 42) C 15 (w_15 _ _) (ws_15 _ _) h dX4_add_42 (fun S3 h => ?_)
    refine g_aload_n (pc := 43) C dX4_add_43 rfl 0 rfl ?_
    refine g_get (pc := 44) C 2 (w_2 _ _) rfl 3 (Nat.le_of_ble_eq_true rfl) in_X4_X4_add k21_X4_add rfl dX4_add_44 ?_
    refine g_aload_n (pc := 47) C dX4_add_47 rfl 0 rfl ?_
    refine g_get (pc := 48) C 2 (w_2 _ _) rfl 5 (Nat.le_of_ble_eq_true rfl) in_X4_X4_add k27_X4_add rfl dX4_add_48 ?_
    refine g_iload (pc := 51) C dX4_add_51 4 rfl ?_
    refine g_iast (pc := 53) C 16 (w_16 _ _) (ws_16 _ _) h dX4_add_53 (fun S4 h => ?_)
    refine g_aload_n (pc := 54) C dX4_add_54 rfl 0 rfl ?_
    refine g_get (pc := 55) C 2 (w_2 _ _) rfl 4 (Nat.le_of_ble_eq_true rfl) in_X4_X4_add k24_X4_add rfl dX4_add_55 ?_
    refine g_aload_n (pc := 58) C dX4_add_58 rfl 0 rfl ?_
    refine g_get (pc := 59) C 2 (w_2 _ _) rfl 5 (Nat.le_of_ble_eq_true rfl) in_X4_X4_add k27_X4_add rfl dX4_add_59 ?_
    refine g_iload (pc := 62) C dX4_add_62 5 rfl ?_
    refine g_iast (pc := 64) C 17 (w_17 _ _) (ws_17 _ _) h dX4_add_64 (fun S5 h => ?_)
    refine g_aload_n (pc := 65) C dX4_add_65 rfl 0 rfl ?_
    refine g_dup (pc := 66) C dX4_add_66 rfl ?_
    refine g_get (pc := 67) C 2 (w_2 _ _) rfl 5 (Nat.le_of_ble_eq_true rfl) in_X4_X4_add k27_X4_add rfl dX4_add_67 ?_
    refine g_iconst (pc := 70) (v := 1) C dX4_add_70 (by decide) ?_
    refine g_iadd (pc := 71) C dX4_add_71 ?_
    refine g_put (pc := 72) C 2 (w_2 _ _) rfl 5 (Nat.le_of_ble_eq_true rfl) in_X4_X4_add tyX4_ok nmX4 k27_X4_add rfl rfl rfl (Nat.le_of_ble_eq_true rfl) (ws_2_5 _ _ _) dX4_add_72 h (fun S6 h => ?_)
    refine g_aload_n (pc := 75) C dX4_add_75 rfl 0 rfl ?_
    refine g_get (pc := 76) C 2 (w_2 _ _) rfl 5 (Nat.le_of_ble_eq_true rfl) in_X4_X4_add k27_X4_add rfl dX4_add_76 ?_
    refine g_iconst (pc := 79) (v := 1) C dX4_add_79 (by decide) ?_
    refine g_isub (pc := 80) C dX4_add_80 ?_
    exact g_iret (pc := 81) C h dX4_add_81
  · refine g_sipush (pc := 9) (v := (-1004)) C dX4_add_9 (by decide) ?_
    exact g_iret (pc := 12) C h dX4_add_12
theorem c_X4_add (l : Launch) (b : Bw) (a1 : Int32) (a2 : Int32) (a3 : Int32) (a4 : Int32) (a5 : Int32) (S : St) : Ct l b yX4_add wsX4_add rmX4_add [.ref (bad b 2), .int a1, .int a2, .int a3, .int a4, .int a5] S mkI (f_X4_add a1 a2 a3 a4 a5 S) := Ct.of (by decide +kernel) rfl (Nat.le_of_ble_eq_true rfl) (fun X C hl hb r h => by
  subst hl; subst hb
  exact s_X4_add_b0 C a1 a2 a3 a4 a5 S h)
/-! StyleRows.note(IIIII)I -/
set_option maxRecDepth 100000 in
set_option maxHeartbeats 4000000 in
theorem s_X11_note_b29 {X : MC} (C : Cx X cX11_note RX11 wsX11_note 6 rmX11_note (some .int)) (S : St) {r0 : Int32 × St} (h : f_X11_note_b29 S = some r0) : G X (QM mkI X r0) S 29 [] [] := by
  unfold f_X11_note_b29 at h
  refine g_sipush (pc := 29) (v := (-1002)) C dX11_note_29 (by decide) ?_
  exact g_iret (pc := 32) C h dX11_note_32
set_option maxRecDepth 100000 in
set_option maxHeartbeats 4000000 in
theorem s_X11_note_b56 {X : MC} (C : Cx X cX11_note RX11 wsX11_note 6 rmX11_note (some .int)) (S : St) {r0 : Int32 × St} (h : f_X11_note_b56 S = some r0) : G X (QM mkI X r0) S 56 [] [] := by
  unfold f_X11_note_b56 at h
  refine g_sipush (pc := 56) (v := (-1002)) C dX11_note_56 (by decide) ?_
  exact g_iret (pc := 59) C h dX11_note_59
set_option maxRecDepth 100000 in
set_option maxHeartbeats 4000000 in
theorem s_X11_note_b0 {X : MC} (C : Cx X cX11_note RX11 wsX11_note 6 rmX11_note (some .int)) (a1 : Int32) (a2 : Int32) (a3 : Int32) (a4 : Int32) (a5 : Int32) (S : St) {r0 : Int32 × St} (h : f_X11_note_b0 a1 a2 a3 a4 a5 S = some r0) : G X (QM mkI X r0) S 0 [(0, .ref (ad X 0)), (1, .int a1), (2, .int a2), (3, .int a3), (4, .int a4), (5, .int a5)] [] := by
  unfold f_X11_note_b0 at h
  refine g_iload_n (pc := 0) C dX11_note_0 rfl 1 rfl ?_
  refine g_callS (pc := 1) C (c_X11_isVoice (Xl X) (Xb X) a1 S) gX11_note_X11_isVoice rfl rfl rfl hd_X11_isVoice ⟨Nat.le_of_ble_eq_true rfl, Nat.le_of_ble_eq_true rfl⟩ rfl rfl (Nat.le_of_ble_eq_true rfl) dX11_note_1 h (fun r2 S1 h => ?_)
  change G X _ S1 4 [(0, .ref (ad X 0)), (1, .int a1), (2, .int a2), (3, .int a3), (4, .int a4), (5, .int a5)] [.int r2]
  refine g_if_eq (pc := 4) (tgt := 29) C h dX11_note_4 (by decide) (fun h => ?_) (fun h => ?_)
  · refine g_weak (lv1 := []) [] rfl ?_
    exact s_X11_note_b29 C   S1 h
  · refine g_iload_n (pc := 7) C dX11_note_7 rfl 2 rfl ?_
    refine g_iconst (pc := 8) (v := 0) C dX11_note_8 (by decide) ?_
    refine g_sipush (pc := 9) (v := 9600) C dX11_note_9 (by decide) ?_
    refine g_callS (pc := 12) C (c_X11_isWithin (Xl X) (Xb X) a2 0 9600 S1) gX11_note_X11_isWithin rfl rfl rfl hd_X11_isWithin ⟨Nat.le_of_ble_eq_true rfl, Nat.le_of_ble_eq_true rfl⟩ rfl rfl (Nat.le_of_ble_eq_true rfl) dX11_note_12 h (fun r4 S3 h => ?_)
    change G X _ S3 15 [(0, .ref (ad X 0)), (1, .int a1), (2, .int a2), (3, .int a3), (4, .int a4), (5, .int a5)] [.int r4]
    refine g_if_eq (pc := 15) (tgt := 29) C h dX11_note_15 (by decide) (fun h => ?_) (fun h => ?_)
    · refine g_weak (lv1 := []) [] rfl ?_
      exact s_X11_note_b29 C   S3 h
    · refine g_iload_n (pc := 18) C dX11_note_18 rfl 3 rfl ?_
      refine g_iconst (pc := 19) (v := 1) C dX11_note_19 (by decide) ?_
      refine g_sipush (pc := 20) (v := 960) C dX11_note_20 (by decide) ?_
      refine g_callS (pc := 23) C (c_X11_isWithin (Xl X) (Xb X) a3 1 960 S3) gX11_note_X11_isWithin rfl rfl rfl hd_X11_isWithin ⟨Nat.le_of_ble_eq_true rfl, Nat.le_of_ble_eq_true rfl⟩ rfl rfl (Nat.le_of_ble_eq_true rfl) dX11_note_23 h (fun r6 S5 h => ?_)
      change G X _ S5 26 [(0, .ref (ad X 0)), (1, .int a1), (2, .int a2), (3, .int a3), (4, .int a4), (5, .int a5)] [.int r6]
      refine g_if_ne (pc := 26) (tgt := 33) C h dX11_note_26 (by decide) (fun h => ?_) (fun h => ?_)
      · refine g_iload (pc := 33) C dX11_note_33 4 rfl ?_
        refine g_bipush (pc := 35) (v := 12) C dX11_note_35 (by decide) ?_
        refine g_bipush (pc := 37) (v := 115) C dX11_note_37 (by decide) ?_
        refine g_callS (pc := 39) C (c_X11_isWithin (Xl X) (Xb X) a4 12 115 S5) gX11_note_X11_isWithin rfl rfl rfl hd_X11_isWithin ⟨Nat.le_of_ble_eq_true rfl, Nat.le_of_ble_eq_true rfl⟩ rfl rfl (Nat.le_of_ble_eq_true rfl) dX11_note_39 h (fun r8 S7 h => ?_)
        change G X _ S7 42 [(0, .ref (ad X 0)), (1, .int a1), (2, .int a2), (3, .int a3), (4, .int a4), (5, .int a5)] [.int r8]
        refine g_if_eq (pc := 42) (tgt := 56) C h dX11_note_42 (by decide) (fun h => ?_) (fun h => ?_)
        · refine g_weak (lv1 := []) [] rfl ?_
          exact s_X11_note_b56 C   S7 h
        · refine g_iload (pc := 45) C dX11_note_45 5 rfl ?_
          refine g_iconst (pc := 47) (v := 0) C dX11_note_47 (by decide) ?_
          refine g_bipush (pc := 48) (v := 127) C dX11_note_48 (by decide) ?_
          refine g_callS (pc := 50) C (c_X11_isWithin (Xl X) (Xb X) a5 0 127 S7) gX11_note_X11_isWithin rfl rfl rfl hd_X11_isWithin ⟨Nat.le_of_ble_eq_true rfl, Nat.le_of_ble_eq_true rfl⟩ rfl rfl (Nat.le_of_ble_eq_true rfl) dX11_note_50 h (fun r10 S9 h => ?_)
          change G X _ S9 53 [(0, .ref (ad X 0)), (1, .int a1), (2, .int a2), (3, .int a3), (4, .int a4), (5, .int a5)] [.int r10]
          refine g_if_ne (pc := 53) (tgt := 60) C h dX11_note_53 (by decide) (fun h => ?_) (fun h => ?_)
          · refine g_aload_n (pc := 60) C dX11_note_60 rfl 0 rfl ?_
            refine g_get (pc := 61) C 0 (w_0 _ _) rfl 1 (Nat.le_of_ble_eq_true rfl) in_X11_X11_note k16_X11_note rfl dX11_note_61 ?_
            refine g_getN (pc := 64) C 1 (w_1 _ _) rfl 0 (Nat.le_of_ble_eq_true rfl) in_X9_X11_note nw_X11_72 rfl dX11_note_64 ?_
            refine g_iload_n (pc := 67) C dX11_note_67 rfl 1 rfl ?_
            refine g_iload_n (pc := 68) C dX11_note_68 rfl 2 rfl ?_
            refine g_iload_n (pc := 69) C dX11_note_69 rfl 3 rfl ?_
            refine g_iload (pc := 70) C dX11_note_70 4 rfl ?_
            refine g_iload (pc := 72) C dX11_note_72 5 rfl ?_
            refine g_callV (pc := 74) C 2 (c_X4_add (Xl X) (Xb X) a1 a2 a3 a4 a5 S9) gX11_note_X4_add rfl rfl rfl hd_X4_add ⟨Nat.le_of_ble_eq_true rfl, Nat.le_of_ble_eq_true rfl⟩ (w_2 _ _) rfl rfl rfl (Nat.le_of_ble_eq_true rfl) dX11_note_74 h (fun r12 S11 h => ?_)
            change G X _ S11 77 [(0, .ref (ad X 0)), (1, .int a1), (2, .int a2), (3, .int a3), (4, .int a4), (5, .int a5)] [.int r12]
            exact g_iret (pc := 77) C h dX11_note_77
          · refine g_weak (lv1 := []) [] rfl ?_
            exact s_X11_note_b56 C   S9 h
      · refine g_weak (lv1 := []) [] rfl ?_
        exact s_X11_note_b29 C   S5 h
theorem c_X11_note (l : Launch) (b : Bw) (a1 : Int32) (a2 : Int32) (a3 : Int32) (a4 : Int32) (a5 : Int32) (S : St) : Ct l b yX11_note wsX11_note rmX11_note [.ref (bad b 0), .int a1, .int a2, .int a3, .int a4, .int a5] S mkI (f_X11_note a1 a2 a3 a4 a5 S) := Ct.of (by decide +kernel) rfl (Nat.le_of_ble_eq_true rfl) (fun X C hl hb r h => by
  subst hl; subst hb
  exact s_X11_note_b0 C a1 a2 a3 a4 a5 S h)
/-! StyleRows$Notes.has(I)Z -/
set_option maxRecDepth 100000 in
set_option maxHeartbeats 4000000 in
theorem s_X4_has_b0 {X : MC} (C : Cx X cX4_has RX4 wsX4_has 2 rmX4_has (some .boolean)) (a1 : Int32) (S : St) {r0 : Int32 × St} (h : f_X4_has_b0 a1 S = some r0) : G X (QM mkI X r0) S 0 [(0, .ref (ad X 2)), (1, .int a1)] [] := by
  unfold f_X4_has_b0 at h
  refine g_iload_n (pc := 0) C dX4_has_0 rfl 1 rfl ?_
  refine g_iconst (pc := 1) (v := 0) C dX4_has_1 (by decide) ?_
  refine g_aload_n (pc := 2) C dX4_has_2 rfl 0 rfl ?_
  refine g_get (pc := 3) C 2 (w_2 _ _) rfl 5 (Nat.le_of_ble_eq_true rfl) in_X4_X4_has k27_X4_has rfl dX4_has_3 ?_
  refine g_iconst (pc := 6) (v := 1) C dX4_has_6 (by decide) ?_
  refine g_isub (pc := 7) C dX4_has_7 ?_
  refine g_callSN (pc := 8) C (c_X11_isWithin (Xl X) (Xb X) a1 0 ((gI S 2) - 1) S) gX4_has_X11_isWithin_n31 rfl rfl rfl nw_X4_31 kiniX11_X4_has kstX11_isWithin_X4_has hd_X11_isWithin ⟨Nat.le_of_ble_eq_true rfl, Nat.le_of_ble_eq_true rfl⟩ rfl rfl (Nat.le_of_ble_eq_true rfl) dX4_has_8 h (fun r2 S1 h => ?_)
  change G X _ S1 11 [(0, .ref (ad X 2)), (1, .int a1)] [.int r2]
  exact g_zret (pc := 11) C h dX4_has_11
theorem c_X4_has (l : Launch) (b : Bw) (a1 : Int32) (S : St) : Ct l b yX4_has wsX4_has rmX4_has [.ref (bad b 2), .int a1] S mkI (f_X4_has a1 S) := Ct.of (by decide +kernel) rfl (Nat.le_of_ble_eq_true rfl) (fun X C hl hb r h => by
  subst hl; subst hb
  exact s_X4_has_b0 C a1 S h)
/-! StyleRows$Notes.changeMarks(II)I -/
set_option maxRecDepth 100000 in
set_option maxHeartbeats 4000000 in
theorem s_X4_changeMarks_b0 {X : MC} (C : Cx X cX4_changeMarks RX4 wsX4_changeMarks 4 rmX4_changeMarks (some .int)) (a1 : Int32) (a2 : Int32) (S : St) {r0 : Int32 × St} (h : f_X4_changeMarks_b0 a1 a2 S = some r0) : G X (QM mkI X r0) S 0 [(0, .ref (ad X 2)), (1, .int a1), (2, .int a2)] [] := by
  unfold f_X4_changeMarks_b0 at h
  refine g_aload_n (pc := 0) C dX4_changeMarks_0 rfl 0 rfl ?_
  refine g_get (pc := 1) C 2 (w_2 _ _) rfl 4 (Nat.le_of_ble_eq_true rfl) in_X4_X4_changeMarks k24_X4_changeMarks rfl dX4_changeMarks_1 ?_
  refine g_iload_n (pc := 4) C dX4_changeMarks_4 rfl 1 rfl ?_
  refine g_iald (pc := 5) C 17 (w_17 _ _) h dX4_changeMarks_5 (fun h => ?_)
  refine g_leti h (fun x1 h => ?_)
  refine g_istore_n (pc := 6) C [(3, .int x1), (0, .ref (ad X 2)), (1, .int a1), (2, .int a2)] dX4_changeMarks_6 rfl (Nat.le_of_ble_eq_true rfl) rfl ?_
  refine g_aload_n (pc := 7) C dX4_changeMarks_7 rfl 1 rfl ?_
  refine g_get (pc := 8) C 2 (w_2 _ _) rfl 4 (Nat.le_of_ble_eq_true rfl) in_X4_X4_changeMarks k24_X4_changeMarks rfl dX4_changeMarks_8 ?_
  refine g_iload_n (pc := 11) C dX4_changeMarks_11 rfl 2 rfl ?_
  refine g_iload_n (pc := 12) C dX4_changeMarks_12 rfl 3 rfl ?_
  refine g_iast (pc := 13) C 17 (w_17 _ _) (ws_17 _ _) h dX4_changeMarks_13 (fun S2 h => ?_)
  refine g_iload_n (pc := 14) C dX4_changeMarks_14 rfl 0 rfl ?_
  exact g_iret (pc := 15) C h dX4_changeMarks_15
theorem c_X4_changeMarks (l : Launch) (b : Bw) (a1 : Int32) (a2 : Int32) (S : St) : Ct l b yX4_changeMarks wsX4_changeMarks rmX4_changeMarks [.ref (bad b 2), .int a1, .int a2] S mkI (f_X4_changeMarks a1 a2 S) := Ct.of (by decide +kernel) rfl (Nat.le_of_ble_eq_true rfl) (fun X C hl hb r h => by
  subst hl; subst hb
  exact s_X4_changeMarks_b0 C a1 a2 S h)
/-! StyleRows.mark(II)I -/
set_option maxRecDepth 100000 in
set_option maxHeartbeats 4000000 in
theorem s_X11_mark_b0 {X : MC} (C : Cx X cX11_mark RX11 wsX11_mark 3 rmX11_mark (some .int)) (a1 : Int32) (a2 : Int32) (S : St) {r0 : Int32 × St} (h : f_X11_mark_b0 a1 a2 S = some r0) : G X (QM mkI X r0) S 0 [(0, .ref (ad X 0)), (1, .int a1), (2, .int a2)] [] := by
  unfold f_X11_mark_b0 at h
  refine g_aload_n (pc := 0) C dX11_mark_0 rfl 0 rfl ?_
  refine g_get (pc := 1) C 0 (w_0 _ _) rfl 1 (Nat.le_of_ble_eq_true rfl) in_X11_X11_mark k16_X11_mark rfl dX11_mark_1 ?_
  refine g_getN (pc := 4) C 1 (w_1 _ _) rfl 0 (Nat.le_of_ble_eq_true rfl) in_X9_X11_mark nw_X11_72 rfl dX11_mark_4 ?_
  refine g_iload_n (pc := 7) C dX11_mark_7 rfl 1 rfl ?_
  refine g_callV (pc := 8) C 2 (c_X4_has (Xl X) (Xb X) a1 S) gX11_mark_X4_has rfl rfl rfl hd_X4_has ⟨Nat.le_of_ble_eq_true rfl, Nat.le_of_ble_eq_true rfl⟩ (w_2 _ _) rfl rfl rfl (Nat.le_of_ble_eq_true rfl) dX11_mark_8 h (fun r2 S1 h => ?_)
  change G X _ S1 11 [(0, .ref (ad X 0)), (1, .int a1), (2, .int a2)] [.int r2]
  refine g_if_ne (pc := 11) (tgt := 18) C h dX11_mark_11 (by decide) (fun h => ?_) (fun h => ?_)
  · refine g_iload_n (pc := 18) C dX11_mark_18 rfl 2 rfl ?_
    refine g_iconst (pc := 19) (v := 0) C dX11_mark_19 (by decide) ?_
    refine g_bipush (pc := 20) (v := 127) C dX11_mark_20 (by decide) ?_
    refine g_callS (pc := 22) C (c_X11_isWithin (Xl X) (Xb X) a2 0 127 S1) gX11_mark_X11_isWithin rfl rfl rfl hd_X11_isWithin ⟨Nat.le_of_ble_eq_true rfl, Nat.le_of_ble_eq_true rfl⟩ rfl rfl (Nat.le_of_ble_eq_true rfl) dX11_mark_22 h (fun r4 S3 h => ?_)
    change G X _ S3 25 [(0, .ref (ad X 0)), (1, .int a1), (2, .int a2)] [.int r4]
    refine g_if_ne (pc := 25) (tgt := 32) C h dX11_mark_25 (by decide) (fun h => ?_) (fun h => ?_)
    · refine g_aload_n (pc := 32) C dX11_mark_32 rfl 0 rfl ?_
      refine g_get (pc := 33) C 0 (w_0 _ _) rfl 1 (Nat.le_of_ble_eq_true rfl) in_X11_X11_mark k16_X11_mark rfl dX11_mark_33 ?_
      refine g_getN (pc := 36) C 1 (w_1 _ _) rfl 0 (Nat.le_of_ble_eq_true rfl) in_X9_X11_mark nw_X11_72 rfl dX11_mark_36 ?_
      refine g_iload_n (pc := 39) C dX11_mark_39 rfl 1 rfl ?_
      refine g_iload_n (pc := 40) C dX11_mark_40 rfl 2 rfl ?_
      refine g_callV (pc := 41) C 2 (c_X4_changeMarks (Xl X) (Xb X) a1 a2 S3) gX11_mark_X4_changeMarks rfl rfl rfl hd_X4_changeMarks ⟨Nat.le_of_ble_eq_true rfl, Nat.le_of_ble_eq_true rfl⟩ (w_2 _ _) rfl rfl rfl (Nat.le_of_ble_eq_true rfl) dX11_mark_41 h (fun r6 S5 h => ?_)
      change G X _ S5 44 [(0, .ref (ad X 0)), (1, .int a1), (2, .int a2)] [.int r6]
      exact g_iret (pc := 44) C h dX11_mark_44
    · refine g_sipush (pc := 28) (v := (-1002)) C dX11_mark_28 (by decide) ?_
      exact g_iret (pc := 31) C h dX11_mark_31
  · refine g_sipush (pc := 14) (v := (-1001)) C dX11_mark_14 (by decide) ?_
    exact g_iret (pc := 17) C h dX11_mark_17
theorem c_X11_mark (l : Launch) (b : Bw) (a1 : Int32) (a2 : Int32) (S : St) : Ct l b yX11_mark wsX11_mark rmX11_mark [.ref (bad b 0), .int a1, .int a2] S mkI (f_X11_mark a1 a2 S) := Ct.of (by decide +kernel) rfl (Nat.le_of_ble_eq_true rfl) (fun X C hl hb r h => by
  subst hl; subst hb
  exact s_X11_mark_b0 C a1 a2 S h)
/-! StyleRows.isTick(I)Z -/
set_option maxRecDepth 100000 in
set_option maxHeartbeats 4000000 in
theorem s_X11_isTick_b0 {X : MC} (C : Cx X cX11_isTick RX11 wsX11_isTick 1 rmX11_isTick (some .boolean)) (a1 : Int32) (S : St) {r0 : Int32 × St} (h : f_X11_isTick_b0 a1 S = some r0) : G X (QM mkI X r0) S 0 [(0, .int a1)] [] := by
  unfold f_X11_isTick_b0 at h
  refine g_iload_n (pc := 0) C dX11_isTick_0 rfl 0 rfl ?_
  refine g_iconst (pc := 1) (v := 0) C dX11_isTick_1 (by decide) ?_
  refine g_sipush (pc := 2) (v := 20000) C dX11_isTick_2 (by decide) ?_
  refine g_callS (pc := 5) C (c_X11_isWithin (Xl X) (Xb X) a1 0 20000 S) gX11_isTick_X11_isWithin rfl rfl rfl hd_X11_isWithin ⟨Nat.le_of_ble_eq_true rfl, Nat.le_of_ble_eq_true rfl⟩ rfl rfl (Nat.le_of_ble_eq_true rfl) dX11_isTick_5 h (fun r2 S1 h => ?_)
  change G X _ S1 8 [(0, .int a1)] [.int r2]
  exact g_zret (pc := 8) C h dX11_isTick_8
theorem c_X11_isTick (l : Launch) (b : Bw) (a1 : Int32) (S : St) : Ct l b yX11_isTick wsX11_isTick rmX11_isTick [.int a1] S mkI (f_X11_isTick a1 S) := Ct.of (by decide +kernel) rfl (Nat.le_of_ble_eq_true rfl) (fun X C hl hb r h => by
  subst hl; subst hb
  exact s_X11_isTick_b0 C a1 S h)
/-! StyleRows$Levels.moveUpFrom(I)V -/
set_option maxRecDepth 100000 in
set_option maxHeartbeats 4000000 in
theorem s_X2_moveUpFrom_b5 {X : MC} (C : Cx X cX2_moveUpFrom RX2 wsX2_moveUpFrom 3 rmX2_moveUpFrom none) {rec5 : Int32 × St → Option (Unit × St)} (v1 : Int32) (v2 : Int32) (hrec5 : ∀ (s : Int32 × St) (r : Unit × St), rec5 s = some r → G X (QM mkV X r) s.2 5 [(0, .ref (ad X 3)), (1, .int v1), (2, .int (s.1))] []) (S : St) {r0 : Unit × St} (h : f_X2_moveUpFrom_b5 rec5 v1 v2 S = some r0) : G X (QM mkV X r0) S 5 [(0, .ref (ad X 3)), (1, .int v1), (2, .int v2)] [] := by
  unfold f_X2_moveUpFrom_b5 at h
  refine g_iload_n (pc := 5) C dX2_moveUpFrom_5 rfl 2 rfl ?_
  refine g_iload_n (pc := 6) C dX2_moveUpFrom_6 rfl 1 rfl ?_
  refine g_icmp_le (pc := 7) (tgt := 58) C h dX2_moveUpFrom_7 (by decide) (fun h => ?_) (fun h => ?_)
  · refine g_aload_n (pc := 58) C dX2_moveUpFrom_58 rfl 0 rfl ?_
    refine g_dup (pc := 59) C dX2_moveUpFrom_59 rfl ?_
    refine g_get (pc := 60) C 3 (w_3 _ _) rfl 3 (Nat.le_of_ble_eq_true rfl) in_X2_X2_moveUpFrom k22_X2_moveUpFrom rfl dX2_moveUpFrom_60 ?_
    refine g_iconst (pc := 63) (v := 1) C dX2_moveUpFrom_63 (by decide) ?_
    refine g_iadd (pc := 64) C dX2_moveUpFrom_64 ?_
    refine g_put (pc := 65) C 3 (w_3 _ _) rfl 3 (Nat.le_of_ble_eq_true rfl) in_X2_X2_moveUpFrom tyX2_ok nmX2 k22_X2_moveUpFrom rfl rfl rfl (Nat.le_of_ble_eq_true rfl) (ws_3_3 _ _ _) dX2_moveUpFrom_65 h (fun S2 h => ?_)
    exact g_vret (pc := 68) C h dX2_moveUpFrom_68
  · refine g_aload_n (pc := 10) C dX2_moveUpFrom_10 rfl 0 rfl ?_
    refine g_get (pc := 11) C 3 (w_3 _ _) rfl 0 (Nat.le_of_ble_eq_true rfl) in_X2_X2_moveUpFrom k11_X2_moveUpFrom rfl dX2_moveUpFrom_11 ?_
    refine g_iload_n (pc := 14) C dX2_moveUpFrom_14 rfl 2 rfl ?_
    refine g_aload_n (pc := 15) C dX2_moveUpFrom_15 rfl 0 rfl ?_
    refine g_get (pc := 16) C 3 (w_3 _ _) rfl 0 (Nat.le_of_ble_eq_true rfl) in_X2_X2_moveUpFrom k11_X2_moveUpFrom rfl dX2_moveUpFrom_16 ?_
    refine g_iload_n (pc := 19) C dX2_moveUpFrom_19 rfl 2 rfl ?_
    refine g_iconst (pc := 20) (v := 1) C dX2_moveUpFrom_20 (by decide) ?_
    refine g_isub (pc := 21) C dX2_moveUpFrom_21 ?_
    refine g_iald (pc := 22) C 18 (w_18 _ _) h dX2_moveUpFrom_22 (fun h => ?_)
    refine g_iast (pc := 23) C 18 (w_18 _ _) (ws_18 _ _) h dX2_moveUpFrom_23 (fun S3 h => ?_)
    refine g_aload_n (pc := 24) C dX2_moveUpFrom_24 rfl 0 rfl ?_
    refine g_get (pc := 25) C 3 (w_3 _ _) rfl 1 (Nat.le_of_ble_eq_true rfl) in_X2_X2_moveUpFrom k15_X2_moveUpFrom rfl dX2_moveUpFrom_25 ?_
    refine g_iload_n (pc := 28) C dX2_moveUpFrom_28 rfl 2 rfl ?_
    refine g_aload_n (pc := 29) C dX2_moveUpFrom_29 rfl 0 rfl ?_
    refine g_get (pc := 30) C 3 (w_3 _ _) rfl 1 (Nat.le_of_ble_eq_true rfl) in_X2_X2_moveUpFrom k15_X2_moveUpFrom rfl dX2_moveUpFrom_30 ?_
    refine g_iload_n (pc := 33) C dX2_moveUpFrom_33 rfl 2 rfl ?_
    refine g_iconst (pc := 34) (v := 1) C dX2_moveUpFrom_34 (by decide) ?_
    refine g_isub (pc := 35) C dX2_moveUpFrom_35 ?_
    refine g_iald (pc := 36) C 19 (w_19 _ _) h dX2_moveUpFrom_36 (fun h => ?_)
    refine g_iast (pc := 37) C 19 (w_19 _ _) (ws_19 _ _) h dX2_moveUpFrom_37 (fun S4 h => ?_)
    refine g_aload_n (pc := 38) C dX2_moveUpFrom_38 rfl 0 rfl ?_
    refine g_get (pc := 39) C 3 (w_3 _ _) rfl 2 (Nat.le_of_ble_eq_true rfl) in_X2_X2_moveUpFrom k18_X2_moveUpFrom rfl dX2_moveUpFrom_39 ?_
    refine g_iload_n (pc := 42) C dX2_moveUpFrom_42 rfl 2 rfl ?_
    refine g_aload_n (pc := 43) C dX2_moveUpFrom_43 rfl 0 rfl ?_
    refine g_get (pc := 44) C 3 (w_3 _ _) rfl 2 (Nat.le_of_ble_eq_true rfl) in_X2_X2_moveUpFrom k18_X2_moveUpFrom rfl dX2_moveUpFrom_44 ?_
    refine g_iload_n (pc := 47) C dX2_moveUpFrom_47 rfl 2 rfl ?_
    refine g_iconst (pc := 48) (v := 1) C dX2_moveUpFrom_48 (by decide) ?_
    refine g_isub (pc := 49) C dX2_moveUpFrom_49 ?_
    refine g_zald (pc := 50) C 20 (w_20 _ _) h dX2_moveUpFrom_50 (fun h => ?_)
    refine g_zast (pc := 51) C 20 (w_20 _ _) (ws_20 _ _) h dX2_moveUpFrom_51 (fun S5 h => ?_)
    refine g_iinc (pc := 52) (v := v2 + (-1)) C [(2, .int (v2 + (-1))), (0, .ref (ad X 3)), (1, .int v1)] dX2_moveUpFrom_52 2 rfl rfl (Nat.le_of_ble_eq_true rfl) rfl ?_
    refine g_goto (pc := 55) (tgt := 5) C dX2_moveUpFrom_55 (by decide) ?_
    refine g_weak (lv1 := [(0, .ref (ad X 3)), (1, .int v1), (2, .int (v2 + (-1)))]) [1, 2, 0] rfl ?_
    exact hrec5 (v2 + (-1), S5) _ h
set_option maxRecDepth 100000 in
set_option maxHeartbeats 4000000 in
theorem s_X2_moveUpFrom_l5 {X : MC} (C : Cx X cX2_moveUpFrom RX2 wsX2_moveUpFrom 3 rmX2_moveUpFrom none) (v1 : Int32) : ∀ (n : Nat) (s : Int32 × St) (r : Unit × St), f_X2_moveUpFrom_l5 v1 n s = some r → G X (QM mkV X r) s.2 5 [(0, .ref (ad X 3)), (1, .int v1), (2, .int (s.1))] [] :=
  loop_sound (fun rec5 hrec5 s r h => s_X2_moveUpFrom_b5 C v1 s.1 hrec5 s.2 h)
set_option maxRecDepth 100000 in
set_option maxHeartbeats 4000000 in
theorem s_X2_moveUpFrom_b0 {X : MC} (C : Cx X cX2_moveUpFrom RX2 wsX2_moveUpFrom 3 rmX2_moveUpFrom none) (a1 : Int32) (S : St) {r0 : Unit × St} (h : f_X2_moveUpFrom_b0 a1 S = some r0) : G X (QM mkV X r0) S 0 [(0, .ref (ad X 3)), (1, .int a1)] [] := by
  unfold f_X2_moveUpFrom_b0 at h
  refine g_aload_n (pc := 0) C dX2_moveUpFrom_0 rfl 0 rfl ?_
  refine g_get (pc := 1) C 3 (w_3 _ _) rfl 3 (Nat.le_of_ble_eq_true rfl) in_X2_X2_moveUpFrom k22_X2_moveUpFrom rfl dX2_moveUpFrom_1 ?_
  refine g_leti h (fun x1 h => ?_)
  refine g_istore_n (pc := 4) C [(2, .int x1), (0, .ref (ad X 3)), (1, .int a1)] dX2_moveUpFrom_4 rfl (Nat.le_of_ble_eq_true rfl) rfl ?_
  refine g_weak (lv1 := [(0, .ref (ad X 3)), (1, .int a1), (2, .int x1)]) [1, 2, 0] rfl ?_
  exact s_X2_moveUpFrom_l5 C a1 _ (x1, S) _ h
theorem c_X2_moveUpFrom (l : Launch) (b : Bw) (a1 : Int32) (S : St) : Ct l b yX2_moveUpFrom wsX2_moveUpFrom rmX2_moveUpFrom [.ref (bad b 3), .int a1] S mkV (f_X2_moveUpFrom a1 S) := Ct.of (by decide +kernel) rfl (Nat.le_of_ble_eq_true rfl) (fun X C hl hb r h => by
  subst hl; subst hb
  exact s_X2_moveUpFrom_b0 C a1 S h)
/-! StyleRows$Levels.put(IIZ)I -/
set_option maxRecDepth 100000 in
set_option maxHeartbeats 4000000 in
theorem s_X2_put_b85 {X : MC} (C : Cx X cX2_put RX2 wsX2_put 6 rmX2_put (some .int)) (v1 : Int32) (v2 : Int32) (v3 : Int32) (v4 : Int32) (S : St) {r0 : Int32 × St} (h : f_X2_put_b85 v1 v2 v3 v4 S = some r0) : G X (QM mkI X r0) S 85 [(0, .ref (ad X 3)), (1, .int v1), (2, .int v2), (3, .int v3), (4, .int v4)] [] := by
  unfold f_X2_put_b85 at h
  refine g_aload_n (pc := 85) C dX2_put_85 rfl 0 rfl ?_
  refine g_get (pc := 86) C 3 (w_3 _ _) rfl 0 (Nat.le_of_ble_eq_true rfl) in_X2_X2_put k11_X2_put rfl dX2_put_86 ?_
  refine g_iload (pc := 89) C dX2_put_89 4 rfl ?_
  refine g_iload_n (pc := 91) C dX2_put_91 rfl 1 rfl ?_
  refine g_iast (pc := 92) C 18 (w_18 _ _) (ws_18 _ _) h dX2_put_92 (fun S1 h => ?_)
  refine g_aload_n (pc := 93) C dX2_put_93 rfl 0 rfl ?_
  refine g_get (pc := 94) C 3 (w_3 _ _) rfl 1 (Nat.le_of_ble_eq_true rfl) in_X2_X2_put k15_X2_put rfl dX2_put_94 ?_
  refine g_iload (pc := 97) C dX2_put_97 4 rfl ?_
  refine g_iload_n (pc := 99) C dX2_put_99 rfl 2 rfl ?_
  refine g_iast (pc := 100) C 19 (w_19 _ _) (ws_19 _ _) h dX2_put_100 (fun S2 h => ?_)
  refine g_aload_n (pc := 101) C dX2_put_101 rfl 0 rfl ?_
  refine g_get (pc := 102) C 3 (w_3 _ _) rfl 2 (Nat.le_of_ble_eq_true rfl) in_X2_X2_put k18_X2_put rfl dX2_put_102 ?_
  refine g_iload (pc := 105) C dX2_put_105 4 rfl ?_
  refine g_iload_n (pc := 107) C dX2_put_107 rfl 3 rfl ?_
  refine g_zast (pc := 108) C 20 (w_20 _ _) (ws_20 _ _) h dX2_put_108 (fun S3 h => ?_)
  refine g_aload_n (pc := 109) C dX2_put_109 rfl 0 rfl ?_
  refine g_get (pc := 110) C 3 (w_3 _ _) rfl 3 (Nat.le_of_ble_eq_true rfl) in_X2_X2_put k22_X2_put rfl dX2_put_110 ?_
  exact g_iret (pc := 113) C h dX2_put_113
set_option maxRecDepth 100000 in
set_option maxHeartbeats 4000000 in
theorem s_X2_put_b74 {X : MC} (C : Cx X cX2_put RX2 wsX2_put 6 rmX2_put (some .int)) (v1 : Int32) (v2 : Int32) (v3 : Int32) (v4 : Int32) (v5 : Int32) (S : St) {r0 : Int32 × St} (h : f_X2_put_b74 v1 v2 v3 v4 v5 S = some r0) : G X (QM mkI X r0) S 74 [(0, .ref (ad X 3)), (1, .int v1), (2, .int v2), (3, .int v3), (4, .int v4), (5, .int v5)] [] := by
  unfold f_X2_put_b74 at h
  refine g_iload (pc := 74) C dX2_put_74 5 rfl ?_
  refine g_if_ne (pc := 76) (tgt := 85) C h dX2_put_76 (by decide) (fun h => ?_) (fun h => ?_)
  · refine g_weak (lv1 := [(0, .ref (ad X 3)), (1, .int v1), (2, .int v2), (3, .int v3), (4, .int v4)]) [0, 1, 2, 3, 4] rfl ?_
    exact s_X2_put_b85 C v1 v2 v3 v4  S h
  · refine g_aload_n (pc := 79) C dX2_put_79 rfl 0 rfl ?_
    refine g_iload (pc := 80) C dX2_put_80 4 rfl ?_
    refine g_callV (pc := 82) C 3 (c_X2_moveUpFrom (Xl X) (Xb X) v4 S) gX2_put_X2_moveUpFrom rfl rfl rfl hd_X2_moveUpFrom ⟨Nat.le_of_ble_eq_true rfl, Nat.le_of_ble_eq_true rfl⟩ (w_3 _ _) rfl rfl rfl (Nat.le_of_ble_eq_true rfl) dX2_put_82 h (fun _u4 S4 h => ?_)
    change G X _ S4 85 [(0, .ref (ad X 3)), (1, .int v1), (2, .int v2), (3, .int v3), (4, .int v4), (5, .int v5)] []
    refine g_weak (lv1 := [(0, .ref (ad X 3)), (1, .int v1), (2, .int v2), (3, .int v3), (4, .int v4)]) [0, 1, 2, 3, 4] rfl ?_
    exact s_X2_put_b85 C v1 v2 v3 v4  S4 h
set_option maxRecDepth 100000 in
set_option maxHeartbeats 4000000 in
theorem s_X2_put_b54 {X : MC} (C : Cx X cX2_put RX2 wsX2_put 6 rmX2_put (some .int)) (v1 : Int32) (v2 : Int32) (v3 : Int32) (v4 : Int32) (w0 : Int32) (S : St) {r0 : Int32 × St} (h : f_X2_put_b54 v1 v2 v3 v4 w0 S = some r0) : G X (QM mkI X r0) S 54 [(0, .ref (ad X 3)), (1, .int v1), (2, .int v2), (3, .int v3), (4, .int v4)] [.int w0] := by
  unfold f_X2_put_b54 at h
  refine g_istore (pc := 54) C [(5, .int w0), (0, .ref (ad X 3)), (1, .int v1), (2, .int v2), (3, .int v3), (4, .int v4)] dX2_put_54 (Nat.le_of_ble_eq_true rfl) rfl ?_
  refine g_iload (pc := 56) C dX2_put_56 0 rfl ?_
  refine g_if_ne (pc := 58) (tgt := 74) C h dX2_put_58 (by decide) (fun h => ?_) (fun h => ?_)
  · refine g_weak (lv1 := [(0, .ref (ad X 3)), (1, .int v1), (2, .int v2), (3, .int v3), (4, .int v4), (5, .int w0)]) [1, 2, 3, 4, 5, 0] rfl ?_
    exact s_X2_put_b74 C v1 v2 v3 v4 w0  S h
  · refine g_aload_n (pc := 61) C dX2_put_61 rfl 1 rfl ?_
    refine g_get (pc := 62) C 3 (w_3 _ _) rfl 3 (Nat.le_of_ble_eq_true rfl) in_X2_X2_put k22_X2_put rfl dX2_put_62 ?_
    refine g_bipush (pc := 65) (v := 12) C dX2_put_65 (by decide) ?_
    refine g_icmp_lt (pc := 67) (tgt := 74) C h dX2_put_67 (by decide) (fun h => ?_) (fun h => ?_)
    · refine g_weak (lv1 := [(0, .ref (ad X 3)), (1, .int v1), (2, .int v2), (3, .int v3), (4, .int v4), (5, .int w0)]) [1, 2, 3, 4, 5, 0] rfl ?_
      exact s_X2_put_b74 C v1 v2 v3 v4 w0  S h
    · refine g_sipush (pc := 70) (v := (-1004)) C dX2_put_70 (by decide) ?_
      exact g_iret (pc := 73) C h dX2_put_73
set_option maxRecDepth 100000 in
set_option maxHeartbeats 4000000 in
theorem s_X2_put_b53 {X : MC} (C : Cx X cX2_put RX2 wsX2_put 6 rmX2_put (some .int)) (v1 : Int32) (v2 : Int32) (v3 : Int32) (v4 : Int32) (S : St) {r0 : Int32 × St} (h : f_X2_put_b53 v1 v2 v3 v4 S = some r0) : G X (QM mkI X r0) S 53 [(0, .ref (ad X 3)), (1, .int v1), (2, .int v2), (3, .int v3), (4, .int v4)] [] := by
  unfold f_X2_put_b53 at h
  refine g_iconst (pc := 53) (v := 0) C dX2_put_53 (by decide) ?_
  refine g_weak (lv1 := [(0, .ref (ad X 3)), (1, .int v1), (2, .int v2), (3, .int v3), (4, .int v4)]) [0, 1, 2, 3, 4] rfl ?_
  exact s_X2_put_b54 C v1 v2 v3 v4 0  S h
set_option maxRecDepth 100000 in
set_option maxHeartbeats 4000000 in
theorem s_X2_put_b29 {X : MC} (C : Cx X cX2_put RX2 wsX2_put 6 rmX2_put (some .int)) (v1 : Int32) (v2 : Int32) (v3 : Int32) (v4 : Int32) (S : St) {r0 : Int32 × St} (h : f_X2_put_b29 v1 v2 v3 v4 S = some r0) : G X (QM mkI X r0) S 29 [(0, .ref (ad X 3)), (1, .int v1), (2, .int v2), (3, .int v3), (4, .int v4)] [] := by
  unfold f_X2_put_b29 at h
  refine g_iload (pc := 29) C dX2_put_29 4 rfl ?_
  refine g_aload_n (pc := 31) C dX2_put_31 rfl 0 rfl ?_
  refine g_get (pc := 32) C 3 (w_3 _ _) rfl 3 (Nat.le_of_ble_eq_true rfl) in_X2_X2_put k22_X2_put rfl dX2_put_32 ?_
  refine g_icmp_ge (pc := 35) (tgt := 53) C h dX2_put_35 (by decide) (fun h => ?_) (fun h => ?_)
  · refine g_weak (lv1 := [(0, .ref (ad X 3)), (1, .int v1), (2, .int v2), (3, .int v3), (4, .int v4)]) [0, 1, 2, 3, 4] rfl ?_
    exact s_X2_put_b53 C v1 v2 v3 v4  S h
  · refine g_aload_n (pc := 38) C dX2_put_38 rfl 0 rfl ?_
    refine g_get (pc := 39) C 3 (w_3 _ _) rfl 0 (Nat.le_of_ble_eq_true rfl) in_X2_X2_put k11_X2_put rfl dX2_put_39 ?_
    refine g_iload (pc := 42) C dX2_put_42 4 rfl ?_
    refine g_iald (pc := 44) C 18 (w_18 _ _) h dX2_put_44 (fun h => ?_)
    refine g_iload_n (pc := 45) C dX2_put_45 rfl 1 rfl ?_
    refine g_icmp_ne (pc := 46) (tgt := 53) C h dX2_put_46 (by decide) (fun h => ?_) (fun h => ?_)
    · refine g_weak (lv1 := [(0, .ref (ad X 3)), (1, .int v1), (2, .int v2), (3, .int v3), (4, .int v4)]) [0, 1, 2, 3, 4] rfl ?_
      exact s_X2_put_b53 C v1 v2 v3 v4  S h
    · refine g_iconst (pc := 49) (v := 1) C dX2_put_49 (by decide) ?_
      refine g_goto (pc := 50) (tgt := 54) C dX2_put_50 (by decide) ?_
      refine g_weak (lv1 := [(0, .ref (ad X 3)), (1, .int v1), (2, .int v2), (3, .int v3), (4, .int v4)]) [0, 1, 2, 3, 4] rfl ?_
      exact s_X2_put_b54 C v1 v2 v3 v4 1  S h
set_option maxRecDepth 100000 in
set_option maxHeartbeats 4000000 in
theorem s_X2_put_b3 {X : MC} (C : Cx X cX2_put RX2 wsX2_put 6 rmX2_put (some .int)) {rec3 : Int32 × St → Option (Int32 × St)} (v1 : Int32) (v2 : Int32) (v3 : Int32) (v4 : Int32) (hrec3 : ∀ (s : Int32 × St) (r : Int32 × St), rec3 s = some r → G X (QM mkI X r) s.2 3 [(0, .ref (ad X 3)), (1, .int v1), (2, .int v2), (3, .int v3), (4, .int (s.1))] []) (S : St) {r0 : Int32 × St} (h : f_X2_put_b3 rec3 v1 v2 v3 v4 S = some r0) : G X (QM mkI X r0) S 3 [(0, .ref (ad X 3)), (1, .int v1), (2, .int v2), (3, .int v3), (4, .int v4)] [] := by
  unfold f_X2_put_b3 at h
  refine g_iload (pc := 3) C dX2_put_3 4 rfl ?_
  refine g_aload_n (pc := 5) C dX2_put_5 rfl 0 rfl ?_
  refine g_get (pc := 6) C 3 (w_3 _ _) rfl 3 (Nat.le_of_ble_eq_true rfl) in_X2_X2_put k22_X2_put rfl dX2_put_6 ?_
  refine g_icmp_ge (pc := 9) (tgt := 29) C h dX2_put_9 (by decide) (fun h => ?_) (fun h => ?_)
  · refine g_weak (lv1 := [(0, .ref (ad X 3)), (1, .int v1), (2, .int v2), (3, .int v3), (4, .int v4)]) [0, 1, 2, 3, 4] rfl ?_
    exact s_X2_put_b29 C v1 v2 v3 v4  S h
  · refine g_aload_n (pc := 12) C dX2_put_12 rfl 0 rfl ?_
    refine g_get (pc := 13) C 3 (w_3 _ _) rfl 0 (Nat.le_of_ble_eq_true rfl) in_X2_X2_put k11_X2_put rfl dX2_put_13 ?_
    refine g_iload (pc := 16) C dX2_put_16 4 rfl ?_
    refine g_iald (pc := 18) C 18 (w_18 _ _) h dX2_put_18 (fun h => ?_)
    refine g_iload_n (pc := 19) C dX2_put_19 rfl 1 rfl ?_
    refine g_icmp_ge (pc := 20) (tgt := 29) C h dX2_put_20 (by decide) (fun h => ?_) (fun h => ?_)
    · refine g_weak (lv1 := [(0, .ref (ad X 3)), (1, .int v1), (2, .int v2), (3, .int v3), (4, .int v4)]) [0, 1, 2, 3, 4] rfl ?_
      exact s_X2_put_b29 C v1 v2 v3 v4  S h
    · refine g_iinc (pc := 23) (v := v4 + 1) C [(4, .int (v4 + 1)), (0, .ref (ad X 3)), (1, .int v1), (2, .int v2), (3, .int v3)] dX2_put_23 4 rfl rfl (Nat.le_of_ble_eq_true rfl) rfl ?_
      refine g_goto (pc := 26) (tgt := 3) C dX2_put_26 (by decide) ?_
      refine g_weak (lv1 := [(0, .ref (ad X 3)), (1, .int v1), (2, .int v2), (3, .int v3), (4, .int (v4 + 1))]) [1, 2, 3, 4, 0] rfl ?_
      exact hrec3 (v4 + 1, S) _ h
set_option maxRecDepth 100000 in
set_option maxHeartbeats 4000000 in
theorem s_X2_put_l3 {X : MC} (C : Cx X cX2_put RX2 wsX2_put 6 rmX2_put (some .int)) (v1 : Int32) (v2 : Int32) (v3 : Int32) : ∀ (n : Nat) (s : Int32 × St) (r : Int32 × St), f_X2_put_l3 v1 v2 v3 n s = some r → G X (QM mkI X r) s.2 3 [(0, .ref (ad X 3)), (1, .int v1), (2, .int v2), (3, .int v3), (4, .int (s.1))] [] :=
  loop_sound (fun rec3 hrec3 s r h => s_X2_put_b3 C v1 v2 v3 s.1 hrec3 s.2 h)
set_option maxRecDepth 100000 in
set_option maxHeartbeats 4000000 in
theorem s_X2_put_b0 {X : MC} (C : Cx X cX2_put RX2 wsX2_put 6 rmX2_put (some .int)) (a1 : Int32) (a2 : Int32) (a3 : Int32) (S : St) {r0 : Int32 × St} (h : f_X2_put_b0 a1 a2 a3 S = some r0) : G X (QM mkI X r0) S 0 [(0, .ref (ad X 3)), (1, .int a1), (2, .int a2), (3, .int a3)] [] := by
  unfold f_X2_put_b0 at h
  refine g_iconst (pc := 0) (v := 0) C dX2_put_0 (by decide) ?_
  refine g_istore (pc := 1) C [(4, .int 0), (0, .ref (ad X 3)), (1, .int a1), (2, .int a2), (3, .int a3)] dX2_put_1 (Nat.le_of_ble_eq_true rfl) rfl ?_
  refine g_weak (lv1 := [(0, .ref (ad X 3)), (1, .int a1), (2, .int a2), (3, .int a3), (4, .int 0)]) [1, 2, 3, 4, 0] rfl ?_
  exact s_X2_put_l3 C a1 a2 a3 _ (0, S) _ h
theorem c_X2_put (l : Launch) (b : Bw) (a1 : Int32) (a2 : Int32) (a3 : Int32) (S : St) : Ct l b yX2_put wsX2_put rmX2_put [.ref (bad b 3), .int a1, .int a2, .int a3] S mkI (f_X2_put a1 a2 a3 S) := Ct.of (by decide +kernel) rfl (Nat.le_of_ble_eq_true rfl) (fun X C hl hb r h => by
  subst hl; subst hb
  exact s_X2_put_b0 C a1 a2 a3 S h)
/-! StyleRows.level(IIZ)I -/
set_option maxRecDepth 100000 in
set_option maxHeartbeats 4000000 in
theorem s_X11_level_b17 {X : MC} (C : Cx X cX11_level RX11 wsX11_level 4 rmX11_level (some .int)) (S : St) {r0 : Int32 × St} (h : f_X11_level_b17 S = some r0) : G X (QM mkI X r0) S 17 [] [] := by
  unfold f_X11_level_b17 at h
  refine g_sipush (pc := 17) (v := (-1002)) C dX11_level_17 (by decide) ?_
  exact g_iret (pc := 20) C h dX11_level_20
set_option maxRecDepth 100000 in
set_option maxHeartbeats 4000000 in
theorem s_X11_level_b0 {X : MC} (C : Cx X cX11_level RX11 wsX11_level 4 rmX11_level (some .int)) (a1 : Int32) (a2 : Int32) (a3 : Int32) (S : St) {r0 : Int32 × St} (h : f_X11_level_b0 a1 a2 a3 S = some r0) : G X (QM mkI X r0) S 0 [(0, .ref (ad X 0)), (1, .int a1), (2, .int a2), (3, .int a3)] [] := by
  unfold f_X11_level_b0 at h
  refine g_iload_n (pc := 0) C dX11_level_0 rfl 1 rfl ?_
  refine g_callS (pc := 1) C (c_X11_isTick (Xl X) (Xb X) a1 S) gX11_level_X11_isTick rfl rfl rfl hd_X11_isTick ⟨Nat.le_of_ble_eq_true rfl, Nat.le_of_ble_eq_true rfl⟩ rfl rfl (Nat.le_of_ble_eq_true rfl) dX11_level_1 h (fun r2 S1 h => ?_)
  change G X _ S1 4 [(0, .ref (ad X 0)), (1, .int a1), (2, .int a2), (3, .int a3)] [.int r2]
  refine g_if_eq (pc := 4) (tgt := 17) C h dX11_level_4 (by decide) (fun h => ?_) (fun h => ?_)
  · refine g_weak (lv1 := []) [] rfl ?_
    exact s_X11_level_b17 C   S1 h
  · refine g_iload_n (pc := 7) C dX11_level_7 rfl 2 rfl ?_
    refine g_iconst (pc := 8) (v := 1) C dX11_level_8 (by decide) ?_
    refine g_bipush (pc := 9) (v := 127) C dX11_level_9 (by decide) ?_
    refine g_callS (pc := 11) C (c_X11_isWithin (Xl X) (Xb X) a2 1 127 S1) gX11_level_X11_isWithin rfl rfl rfl hd_X11_isWithin ⟨Nat.le_of_ble_eq_true rfl, Nat.le_of_ble_eq_true rfl⟩ rfl rfl (Nat.le_of_ble_eq_true rfl) dX11_level_11 h (fun r4 S3 h => ?_)
    change G X _ S3 14 [(0, .ref (ad X 0)), (1, .int a1), (2, .int a2), (3, .int a3)] [.int r4]
    refine g_if_ne (pc := 14) (tgt := 21) C h dX11_level_14 (by decide) (fun h => ?_) (fun h => ?_)
    · refine g_aload_n (pc := 21) C dX11_level_21 rfl 0 rfl ?_
      refine g_get (pc := 22) C 0 (w_0 _ _) rfl 1 (Nat.le_of_ble_eq_true rfl) in_X11_X11_level k16_X11_level rfl dX11_level_22 ?_
      refine g_getN (pc := 25) C 1 (w_1 _ _) rfl 1 (Nat.le_of_ble_eq_true rfl) in_X9_X11_level nw_X11_90 rfl dX11_level_25 ?_
      refine g_iload_n (pc := 28) C dX11_level_28 rfl 1 rfl ?_
      refine g_iload_n (pc := 29) C dX11_level_29 rfl 2 rfl ?_
      refine g_iload_n (pc := 30) C dX11_level_30 rfl 3 rfl ?_
      refine g_callV (pc := 31) C 3 (c_X2_put (Xl X) (Xb X) a1 a2 a3 S3) gX11_level_X2_put rfl rfl rfl hd_X2_put ⟨Nat.le_of_ble_eq_true rfl, Nat.le_of_ble_eq_true rfl⟩ (w_3 _ _) rfl rfl rfl (Nat.le_of_ble_eq_true rfl) dX11_level_31 h (fun r6 S5 h => ?_)
      change G X _ S5 34 [(0, .ref (ad X 0)), (1, .int a1), (2, .int a2), (3, .int a3)] [.int r6]
      exact g_iret (pc := 34) C h dX11_level_34
    · refine g_weak (lv1 := []) [] rfl ?_
      exact s_X11_level_b17 C   S3 h
theorem c_X11_level (l : Launch) (b : Bw) (a1 : Int32) (a2 : Int32) (a3 : Int32) (S : St) : Ct l b yX11_level wsX11_level rmX11_level [.ref (bad b 0), .int a1, .int a2, .int a3] S mkI (f_X11_level a1 a2 a3 S) := Ct.of (by decide +kernel) rfl (Nat.le_of_ble_eq_true rfl) (fun X C hl hb r h => by
  subst hl; subst hb
  exact s_X11_level_b0 C a1 a2 a3 S h)
/-! StyleRows$Score.beat(II)V -/
set_option maxRecDepth 100000 in
set_option maxHeartbeats 4000000 in
theorem s_X9_beat_b0 {X : MC} (C : Cx X cX9_beat RX9 wsX9_beat 3 rmX9_beat none) (a1 : Int32) (a2 : Int32) (S : St) {r0 : Unit × St} (h : f_X9_beat_b0 a1 a2 S = some r0) : G X (QM mkV X r0) S 0 [(0, .ref (ad X 1)), (1, .int a1), (2, .int a2)] [] := by
  unfold f_X9_beat_b0 at h
  refine g_aload_n (pc := 0) C dX9_beat_0 rfl 0 rfl ?_
  refine g_iload_n (pc := 1) C dX9_beat_1 rfl 1 rfl ?_
  refine g_put (pc := 2) C 1 (w_1 _ _) rfl 3 (Nat.le_of_ble_eq_true rfl) in_X9_X9_beat tyX9_ok nmX9 k30_X9_beat rfl rfl rfl (Nat.le_of_ble_eq_true rfl) (ws_1_3 _ _ _) dX9_beat_2 h (fun S1 h => ?_)
  refine g_aload_n (pc := 5) C dX9_beat_5 rfl 0 rfl ?_
  refine g_iload_n (pc := 6) C dX9_beat_6 rfl 2 rfl ?_
  refine g_put (pc := 7) C 1 (w_1 _ _) rfl 4 (Nat.le_of_ble_eq_true rfl) in_X9_X9_beat tyX9_ok nmX9 k34_X9_beat rfl rfl rfl (Nat.le_of_ble_eq_true rfl) (ws_1_4 _ _ _) dX9_beat_7 h (fun S2 h => ?_)
  exact g_vret (pc := 10) C h dX9_beat_10
theorem c_X9_beat (l : Launch) (b : Bw) (a1 : Int32) (a2 : Int32) (S : St) : Ct l b yX9_beat wsX9_beat rmX9_beat [.ref (bad b 1), .int a1, .int a2] S mkV (f_X9_beat a1 a2 S) := Ct.of (by decide +kernel) rfl (Nat.le_of_ble_eq_true rfl) (fun X C hl hb r h => by
  subst hl; subst hb
  exact s_X9_beat_b0 C a1 a2 S h)
/-! StyleRows.meter(II)I -/
set_option maxRecDepth 100000 in
set_option maxHeartbeats 4000000 in
theorem s_X11_meter_b21 {X : MC} (C : Cx X cX11_meter RX11 wsX11_meter 3 rmX11_meter (some .int)) (S : St) {r0 : Int32 × St} (h : f_X11_meter_b21 S = some r0) : G X (QM mkI X r0) S 21 [] [] := by
  unfold f_X11_meter_b21 at h
  refine g_sipush (pc := 21) (v := (-1002)) C dX11_meter_21 (by decide) ?_
  exact g_iret (pc := 24) C h dX11_meter_24
set_option maxRecDepth 100000 in
set_option maxHeartbeats 4000000 in
theorem s_X11_meter_b0 {X : MC} (C : Cx X cX11_meter RX11 wsX11_meter 3 rmX11_meter (some .int)) (a1 : Int32) (a2 : Int32) (S : St) {r0 : Int32 × St} (h : f_X11_meter_b0 a1 a2 S = some r0) : G X (QM mkI X r0) S 0 [(0, .ref (ad X 0)), (1, .int a1), (2, .int a2)] [] := by
  unfold f_X11_meter_b0 at h
  refine g_iload_n (pc := 0) C dX11_meter_0 rfl 1 rfl ?_
  refine g_iconst (pc := 1) (v := 1) C dX11_meter_1 (by decide) ?_
  refine g_bipush (pc := 2) (v := 12) C dX11_meter_2 (by decide) ?_
  refine g_callS (pc := 4) C (c_X11_isWithin (Xl X) (Xb X) a1 1 12 S) gX11_meter_X11_isWithin rfl rfl rfl hd_X11_isWithin ⟨Nat.le_of_ble_eq_true rfl, Nat.le_of_ble_eq_true rfl⟩ rfl rfl (Nat.le_of_ble_eq_true rfl) dX11_meter_4 h (fun r2 S1 h => ?_)
  change G X _ S1 7 [(0, .ref (ad X 0)), (1, .int a1), (2, .int a2)] [.int r2]
  refine g_if_eq (pc := 7) (tgt := 21) C h dX11_meter_7 (by decide) (fun h => ?_) (fun h => ?_)
  · refine g_weak (lv1 := []) [] rfl ?_
    exact s_X11_meter_b21 C   S1 h
  · refine g_iload_n (pc := 10) C dX11_meter_10 rfl 2 rfl ?_
    refine g_iconst (pc := 11) (v := 1) C dX11_meter_11 (by decide) ?_
    refine g_sipush (pc := 12) (v := 960) C dX11_meter_12 (by decide) ?_
    refine g_callS (pc := 15) C (c_X11_isWithin (Xl X) (Xb X) a2 1 960 S1) gX11_meter_X11_isWithin rfl rfl rfl hd_X11_isWithin ⟨Nat.le_of_ble_eq_true rfl, Nat.le_of_ble_eq_true rfl⟩ rfl rfl (Nat.le_of_ble_eq_true rfl) dX11_meter_15 h (fun r4 S3 h => ?_)
    change G X _ S3 18 [(0, .ref (ad X 0)), (1, .int a1), (2, .int a2)] [.int r4]
    refine g_if_ne (pc := 18) (tgt := 25) C h dX11_meter_18 (by decide) (fun h => ?_) (fun h => ?_)
    · refine g_aload_n (pc := 25) C dX11_meter_25 rfl 0 rfl ?_
      refine g_get (pc := 26) C 0 (w_0 _ _) rfl 1 (Nat.le_of_ble_eq_true rfl) in_X11_X11_meter k16_X11_meter rfl dX11_meter_26 ?_
      refine g_iload_n (pc := 29) C dX11_meter_29 rfl 1 rfl ?_
      refine g_iload_n (pc := 30) C dX11_meter_30 rfl 2 rfl ?_
      refine g_callV (pc := 31) C 1 (c_X9_beat (Xl X) (Xb X) a1 a2 S3) gX11_meter_X9_beat rfl rfl rfl hd_X9_beat ⟨Nat.le_of_ble_eq_true rfl, Nat.le_of_ble_eq_true rfl⟩ (w_1 _ _) rfl rfl rfl (Nat.le_of_ble_eq_true rfl) dX11_meter_31 h (fun _u5 S5 h => ?_)
      change G X _ S5 34 [(0, .ref (ad X 0)), (1, .int a1), (2, .int a2)] []
      refine g_iconst (pc := 34) (v := 1) C dX11_meter_34 (by decide) ?_
      exact g_iret (pc := 35) C h dX11_meter_35
    · refine g_weak (lv1 := []) [] rfl ?_
      exact s_X11_meter_b21 C   S3 h
theorem c_X11_meter (l : Launch) (b : Bw) (a1 : Int32) (a2 : Int32) (S : St) : Ct l b yX11_meter wsX11_meter rmX11_meter [.ref (bad b 0), .int a1, .int a2] S mkI (f_X11_meter a1 a2 S) := Ct.of (by decide +kernel) rfl (Nat.le_of_ble_eq_true rfl) (fun X C hl hb r h => by
  subst hl; subst hb
  exact s_X11_meter_b0 C a1 a2 S h)
/-! StyleRows$Arcs.shareWith(II)Z -/
set_option maxRecDepth 100000 in
set_option maxHeartbeats 4000000 in
theorem s_X0_shareWith_b2 {X : MC} (C : Cx X cX0_shareWith RX0 wsX0_shareWith 4 rmX0_shareWith (some .boolean)) {rec2 : Int32 × St → Option (Int32 × St)} (v1 : Int32) (v2 : Int32) (v3 : Int32) (hrec2 : ∀ (s : Int32 × St) (r : Int32 × St), rec2 s = some r → G X (QM mkI X r) s.2 2 [(0, .ref (ad X 4)), (1, .int v1), (2, .int v2), (3, .int (s.1))] []) (S : St) {r0 : Int32 × St} (h : f_X0_shareWith_b2 rec2 v1 v2 v3 S = some r0) : G X (QM mkI X r0) S 2 [(0, .ref (ad X 4)), (1, .int v1), (2, .int v2), (3, .int v3)] [] := by
  unfold f_X0_shareWith_b2 at h
  refine g_iload_n (pc := 2) C dX0_shareWith_2 rfl 3 rfl ?_
  refine g_aload_n (pc := 3) C dX0_shareWith_3 rfl 0 rfl ?_
  refine g_get (pc := 4) C 4 (w_4 _ _) rfl 3 (Nat.le_of_ble_eq_true rfl) in_X0_X0_shareWith k21_X0_shareWith rfl dX0_shareWith_4 ?_
  refine g_icmp_ge (pc := 7) (tgt := 41) C h dX0_shareWith_7 (by decide) (fun h => ?_) (fun h => ?_)
  · refine g_iconst (pc := 41) (v := 0) C dX0_shareWith_41 (by decide) ?_
    exact g_zretc (pc := 42) C rfl h dX0_shareWith_42
  · refine g_aload_n (pc := 10) C dX0_shareWith_10 rfl 0 rfl ?_
    refine g_get (pc := 11) C 4 (w_4 _ _) rfl 0 (Nat.le_of_ble_eq_true rfl) in_X0_X0_shareWith k11_X0_shareWith rfl dX0_shareWith_11 ?_
    refine g_iload_n (pc := 14) C dX0_shareWith_14 rfl 3 rfl ?_
    refine g_iald (pc := 15) C 21 (w_21 _ _) h dX0_shareWith_15 (fun h => ?_)
    refine g_iload_n (pc := 16) C dX0_shareWith_16 rfl 1 rfl ?_
    refine g_mmax (pc := 17) C k25_X0_shareWith kstmax_X0_shareWith kini_X0_shareWith kcomax_X0_shareWith (Nat.le_of_ble_eq_true rfl) (Nat.le_of_ble_eq_true rfl) dX0_shareWith_17 ?_
    refine g_aload_n (pc := 20) C dX0_shareWith_20 rfl 0 rfl ?_
    refine g_get (pc := 21) C 4 (w_4 _ _) rfl 1 (Nat.le_of_ble_eq_true rfl) in_X0_X0_shareWith k15_X0_shareWith rfl dX0_shareWith_21 ?_
    refine g_iload_n (pc := 24) C dX0_shareWith_24 rfl 3 rfl ?_
    refine g_iald (pc := 25) C 22 (w_22 _ _) h dX0_shareWith_25 (fun h => ?_)
    refine g_iload_n (pc := 26) C dX0_shareWith_26 rfl 2 rfl ?_
    refine g_mmin (pc := 27) C k31_X0_shareWith kstmin_X0_shareWith kini_X0_shareWith kcomin_X0_shareWith (Nat.le_of_ble_eq_true rfl) (Nat.le_of_ble_eq_true rfl) dX0_shareWith_27 ?_
    refine g_icmp_ge (pc := 30) (tgt := 35) C h dX0_shareWith_30 (by decide) (fun h => ?_) (fun h => ?_)
    · refine g_iinc (pc := 35) (v := v3 + 1) C [(3, .int (v3 + 1)), (0, .ref (ad X 4)), (1, .int v1), (2, .int v2)] dX0_shareWith_35 3 rfl rfl (Nat.le_of_ble_eq_true rfl) rfl ?_
      refine g_goto (pc := 38) (tgt := 2) C dX0_shareWith_38 (by decide) ?_
      refine g_weak (lv1 := [(0, .ref (ad X 4)), (1, .int v1), (2, .int v2), (3, .int (v3 + 1))]) [1, 2, 3, 0] rfl ?_
      exact hrec2 (v3 + 1, S) _ h
    · refine g_iconst (pc := 33) (v := 1) C dX0_shareWith_33 (by decide) ?_
      exact g_zretc (pc := 34) C rfl h dX0_shareWith_34
set_option maxRecDepth 100000 in
set_option maxHeartbeats 4000000 in
theorem s_X0_shareWith_l2 {X : MC} (C : Cx X cX0_shareWith RX0 wsX0_shareWith 4 rmX0_shareWith (some .boolean)) (v1 : Int32) (v2 : Int32) : ∀ (n : Nat) (s : Int32 × St) (r : Int32 × St), f_X0_shareWith_l2 v1 v2 n s = some r → G X (QM mkI X r) s.2 2 [(0, .ref (ad X 4)), (1, .int v1), (2, .int v2), (3, .int (s.1))] [] :=
  loop_sound (fun rec2 hrec2 s r h => s_X0_shareWith_b2 C v1 v2 s.1 hrec2 s.2 h)
set_option maxRecDepth 100000 in
set_option maxHeartbeats 4000000 in
theorem s_X0_shareWith_b0 {X : MC} (C : Cx X cX0_shareWith RX0 wsX0_shareWith 4 rmX0_shareWith (some .boolean)) (a1 : Int32) (a2 : Int32) (S : St) {r0 : Int32 × St} (h : f_X0_shareWith_b0 a1 a2 S = some r0) : G X (QM mkI X r0) S 0 [(0, .ref (ad X 4)), (1, .int a1), (2, .int a2)] [] := by
  unfold f_X0_shareWith_b0 at h
  refine g_iconst (pc := 0) (v := 0) C dX0_shareWith_0 (by decide) ?_
  refine g_istore_n (pc := 1) C [(3, .int 0), (0, .ref (ad X 4)), (1, .int a1), (2, .int a2)] dX0_shareWith_1 rfl (Nat.le_of_ble_eq_true rfl) rfl ?_
  refine g_weak (lv1 := [(0, .ref (ad X 4)), (1, .int a1), (2, .int a2), (3, .int 0)]) [1, 2, 3, 0] rfl ?_
  exact s_X0_shareWith_l2 C a1 a2 _ (0, S) _ h
theorem c_X0_shareWith (l : Launch) (b : Bw) (a1 : Int32) (a2 : Int32) (S : St) : Ct l b yX0_shareWith wsX0_shareWith rmX0_shareWith [.ref (bad b 4), .int a1, .int a2] S mkI (f_X0_shareWith a1 a2 S) := Ct.of (by decide +kernel) rfl (Nat.le_of_ble_eq_true rfl) (fun X C hl hb r h => by
  subst hl; subst hb
  exact s_X0_shareWith_b0 C a1 a2 S h)
/-! StyleRows$Arcs.add(III)I -/
set_option maxRecDepth 100000 in
set_option maxHeartbeats 4000000 in
theorem s_X0_add_b0 {X : MC} (C : Cx X cX0_add RX0 wsX0_add 4 rmX0_add (some .int)) (a1 : Int32) (a2 : Int32) (a3 : Int32) (S : St) {r0 : Int32 × St} (h : f_X0_add_b0 a1 a2 a3 S = some r0) : G X (QM mkI X r0) S 0 [(0, .ref (ad X 4)), (1, .int a1), (2, .int a2), (3, .int a3)] [] := by
  unfold f_X0_add_b0 at h
  refine g_aload_n (pc := 0) C dX0_add_0 rfl 0 rfl ?_
  refine g_get (pc := 1) C 4 (w_4 _ _) rfl 3 (Nat.le_of_ble_eq_true rfl) in_X0_X0_add k21_X0_add rfl dX0_add_1 ?_
  refine g_bipush (pc := 4) (v := 6) C dX0_add_4 (by decide) ?_
  refine g_icmp_lt (pc := 6) (tgt := 13) C h dX0_add_6 (by decide) (fun h => ?_) (fun h => ?_)
  · refine g_aload_n (pc := 13) C dX0_add_13 rfl 0 rfl ?_
    refine g_get (pc := 14) C 4 (w_4 _ _) rfl 0 (Nat.le_of_ble_eq_true rfl) in_X0_X0_add k11_X0_add rfl dX0_add_14 ?_
    refine g_aload_n (pc := 17) C dX0_add_17 rfl 0 rfl ?_
    refine g_get (pc := 18) C 4 (w_4 _ _) rfl 3 (Nat.le_of_ble_eq_true rfl) in_X0_X0_add k21_X0_add rfl dX0_add_18 ?_
    refine g_iload_n (pc := 21) C dX0_add_21 rfl 1 rfl ?_
    refine g_iast (pc := 22) C 21 (w_21 _ _) (ws_21 _ _) h dX0_add_22 (fun S1 h => ?_)
    refine g_aload_n (pc := 23) C dX0_add_23 rfl 0 rfl ?_
    refine g_get (pc := 24) C 4 (w_4 _ _) rfl 1 (Nat.le_of_ble_eq_true rfl) in_X0_X0_add k15_X0_add rfl dX0_add_24 ?_
    refine g_aload_n (pc := 27) C dX0_add_27 rfl 0 rfl ?_
    refine g_get (pc := 28) C 4 (w_4 _ _) rfl 3 (Nat.le_of_ble_eq_true rfl) in_X0_X0_add k21_X0_add rfl dX0_add_28 ?_
    refine g_iload_n (pc := 31) C dX0_add_31 rfl 2 rfl ?_
    refine g_iast (pc := 32) C 22 (w_22 _ _) (ws_22 _ _) h dX0_add_32 (fun S2 h => ?_)
    refine g_aload_n (pc := 33) C dX0_add_33 rfl 0 rfl ?_
    refine g_get (pc := 34) C 4 (w_4 _ _) rfl 2 (Nat.le_of_ble_eq_true rfl) in_X0_X0_add k18_X0_add rfl dX0_add_34 ?_
    refine g_aload_n (pc := 37) C dX0_add_37 rfl 0 rfl ?_
    refine g_get (pc := 38) C 4 (w_4 _ _) rfl 3 (Nat.le_of_ble_eq_true rfl) in_X0_X0_add k21_X0_add rfl dX0_add_38 ?_
    refine g_iload_n (pc := 41) C dX0_add_41 rfl 3 rfl ?_
    refine g_iast (pc := 42) C 23 (w_23 _ _) (ws_23 _ _) h dX0_add_42 (fun S3 h => ?_)
    refine g_aload_n (pc := 43) C dX0_add_43 rfl 0 rfl ?_
    refine g_dup (pc := 44) C dX0_add_44 rfl ?_
    refine g_get (pc := 45) C 4 (w_4 _ _) rfl 3 (Nat.le_of_ble_eq_true rfl) in_X0_X0_add k21_X0_add rfl dX0_add_45 ?_
    refine g_iconst (pc := 48) (v := 1) C dX0_add_48 (by decide) ?_
    refine g_iadd (pc := 49) C dX0_add_49 ?_
    refine g_put (pc := 50) C 4 (w_4 _ _) rfl 3 (Nat.le_of_ble_eq_true rfl) in_X0_X0_add tyX0_ok nmX0 k21_X0_add rfl rfl rfl (Nat.le_of_ble_eq_true rfl) (ws_4_3 _ _ _) dX0_add_50 h (fun S4 h => ?_)
    refine g_aload_n (pc := 53) C dX0_add_53 rfl 0 rfl ?_
    refine g_get (pc := 54) C 4 (w_4 _ _) rfl 3 (Nat.le_of_ble_eq_true rfl) in_X0_X0_add k21_X0_add rfl dX0_add_54 ?_
    exact g_iret (pc := 57) C h dX0_add_57
  · refine g_sipush (pc := 9) (v := (-1004)) C dX0_add_9 (by decide) ?_
    exact g_iret (pc := 12) C h dX0_add_12
theorem c_X0_add (l : Launch) (b : Bw) (a1 : Int32) (a2 : Int32) (a3 : Int32) (S : St) : Ct l b yX0_add wsX0_add rmX0_add [.ref (bad b 4), .int a1, .int a2, .int a3] S mkI (f_X0_add a1 a2 a3 S) := Ct.of (by decide +kernel) rfl (Nat.le_of_ble_eq_true rfl) (fun X C hl hb r h => by
  subst hl; subst hb
  exact s_X0_add_b0 C a1 a2 a3 S h)
/-! StyleRows.arc(III)I -/
set_option maxRecDepth 100000 in
set_option maxHeartbeats 4000000 in
theorem s_X11_arc_b32 {X : MC} (C : Cx X cX11_arc RX11 wsX11_arc 4 rmX11_arc (some .int)) (S : St) {r0 : Int32 × St} (h : f_X11_arc_b32 S = some r0) : G X (QM mkI X r0) S 32 [] [] := by
  unfold f_X11_arc_b32 at h
  refine g_sipush (pc := 32) (v := (-1002)) C dX11_arc_32 (by decide) ?_
  exact g_iret (pc := 35) C h dX11_arc_35
set_option maxRecDepth 100000 in
set_option maxHeartbeats 4000000 in
theorem s_X11_arc_b0 {X : MC} (C : Cx X cX11_arc RX11 wsX11_arc 4 rmX11_arc (some .int)) (a1 : Int32) (a2 : Int32) (a3 : Int32) (S : St) {r0 : Int32 × St} (h : f_X11_arc_b0 a1 a2 a3 S = some r0) : G X (QM mkI X r0) S 0 [(0, .ref (ad X 0)), (1, .int a1), (2, .int a2), (3, .int a3)] [] := by
  unfold f_X11_arc_b0 at h
  refine g_iload_n (pc := 0) C dX11_arc_0 rfl 1 rfl ?_
  refine g_callS (pc := 1) C (c_X11_isTick (Xl X) (Xb X) a1 S) gX11_arc_X11_isTick rfl rfl rfl hd_X11_isTick ⟨Nat.le_of_ble_eq_true rfl, Nat.le_of_ble_eq_true rfl⟩ rfl rfl (Nat.le_of_ble_eq_true rfl) dX11_arc_1 h (fun r2 S1 h => ?_)
  change G X _ S1 4 [(0, .ref (ad X 0)), (1, .int a1), (2, .int a2), (3, .int a3)] [.int r2]
  refine g_if_eq (pc := 4) (tgt := 32) C h dX11_arc_4 (by decide) (fun h => ?_) (fun h => ?_)
  · refine g_weak (lv1 := []) [] rfl ?_
    exact s_X11_arc_b32 C   S1 h
  · refine g_iload_n (pc := 7) C dX11_arc_7 rfl 2 rfl ?_
    refine g_callS (pc := 8) C (c_X11_isTick (Xl X) (Xb X) a2 S1) gX11_arc_X11_isTick rfl rfl rfl hd_X11_isTick ⟨Nat.le_of_ble_eq_true rfl, Nat.le_of_ble_eq_true rfl⟩ rfl rfl (Nat.le_of_ble_eq_true rfl) dX11_arc_8 h (fun r4 S3 h => ?_)
    change G X _ S3 11 [(0, .ref (ad X 0)), (1, .int a1), (2, .int a2), (3, .int a3)] [.int r4]
    refine g_if_eq (pc := 11) (tgt := 32) C h dX11_arc_11 (by decide) (fun h => ?_) (fun h => ?_)
    · refine g_weak (lv1 := []) [] rfl ?_
      exact s_X11_arc_b32 C   S3 h
    · refine g_iload_n (pc := 14) C dX11_arc_14 rfl 1 rfl ?_
      refine g_iload_n (pc := 15) C dX11_arc_15 rfl 2 rfl ?_
      refine g_icmp_ge (pc := 16) (tgt := 32) C h dX11_arc_16 (by decide) (fun h => ?_) (fun h => ?_)
      · refine g_weak (lv1 := []) [] rfl ?_
        exact s_X11_arc_b32 C   S3 h
      · refine g_iload_n (pc := 19) C dX11_arc_19 rfl 3 rfl ?_
        refine g_sipush (pc := 20) (v := (-400)) C dX11_arc_20 (by decide) ?_
        refine g_sipush (pc := 23) (v := 400) C dX11_arc_23 (by decide) ?_
        refine g_callS (pc := 26) C (c_X11_isWithin (Xl X) (Xb X) a3 (-400) 400 S3) gX11_arc_X11_isWithin rfl rfl rfl hd_X11_isWithin ⟨Nat.le_of_ble_eq_true rfl, Nat.le_of_ble_eq_true rfl⟩ rfl rfl (Nat.le_of_ble_eq_true rfl) dX11_arc_26 h (fun r6 S5 h => ?_)
        change G X _ S5 29 [(0, .ref (ad X 0)), (1, .int a1), (2, .int a2), (3, .int a3)] [.int r6]
        refine g_if_ne (pc := 29) (tgt := 36) C h dX11_arc_29 (by decide) (fun h => ?_) (fun h => ?_)
        · refine g_aload_n (pc := 36) C dX11_arc_36 rfl 0 rfl ?_
          refine g_get (pc := 37) C 0 (w_0 _ _) rfl 1 (Nat.le_of_ble_eq_true rfl) in_X11_X11_arc k16_X11_arc rfl dX11_arc_37 ?_
          refine g_getN (pc := 40) C 1 (w_1 _ _) rfl 2 (Nat.le_of_ble_eq_true rfl) in_X9_X11_arc nw_X11_104 rfl dX11_arc_40 ?_
          refine g_iload_n (pc := 43) C dX11_arc_43 rfl 1 rfl ?_
          refine g_iload_n (pc := 44) C dX11_arc_44 rfl 2 rfl ?_
          refine g_callV (pc := 45) C 4 (c_X0_shareWith (Xl X) (Xb X) a1 a2 S5) gX11_arc_X0_shareWith rfl rfl rfl hd_X0_shareWith ⟨Nat.le_of_ble_eq_true rfl, Nat.le_of_ble_eq_true rfl⟩ (w_4 _ _) rfl rfl rfl (Nat.le_of_ble_eq_true rfl) dX11_arc_45 h (fun r8 S7 h => ?_)
          change G X _ S7 48 [(0, .ref (ad X 0)), (1, .int a1), (2, .int a2), (3, .int a3)] [.int r8]
          refine g_if_eq (pc := 48) (tgt := 55) C h dX11_arc_48 (by decide) (fun h => ?_) (fun h => ?_)
          · refine g_aload_n (pc := 55) C dX11_arc_55 rfl 0 rfl ?_
            refine g_get (pc := 56) C 0 (w_0 _ _) rfl 1 (Nat.le_of_ble_eq_true rfl) in_X11_X11_arc k16_X11_arc rfl dX11_arc_56 ?_
            refine g_getN (pc := 59) C 1 (w_1 _ _) rfl 2 (Nat.le_of_ble_eq_true rfl) in_X9_X11_arc nw_X11_104 rfl dX11_arc_59 ?_
            refine g_iload_n (pc := 62) C dX11_arc_62 rfl 1 rfl ?_
            refine g_iload_n (pc := 63) C dX11_arc_63 rfl 2 rfl ?_
            refine g_iload_n (pc := 64) C dX11_arc_64 rfl 3 rfl ?_
            refine g_callV (pc := 65) C 4 (c_X0_add (Xl X) (Xb X) a1 a2 a3 S7) gX11_arc_X0_add rfl rfl rfl hd_X0_add ⟨Nat.le_of_ble_eq_true rfl, Nat.le_of_ble_eq_true rfl⟩ (w_4 _ _) rfl rfl rfl (Nat.le_of_ble_eq_true rfl) dX11_arc_65 h (fun r10 S9 h => ?_)
            change G X _ S9 68 [(0, .ref (ad X 0)), (1, .int a1), (2, .int a2), (3, .int a3)] [.int r10]
            exact g_iret (pc := 68) C h dX11_arc_68
          · refine g_sipush (pc := 51) (v := (-1003)) C dX11_arc_51 (by decide) ?_
            exact g_iret (pc := 54) C h dX11_arc_54
        · refine g_weak (lv1 := []) [] rfl ?_
          exact s_X11_arc_b32 C   S5 h
theorem c_X11_arc (l : Launch) (b : Bw) (a1 : Int32) (a2 : Int32) (a3 : Int32) (S : St) : Ct l b yX11_arc wsX11_arc rmX11_arc [.ref (bad b 0), .int a1, .int a2, .int a3] S mkI (f_X11_arc a1 a2 a3 S) := Ct.of (by decide +kernel) rfl (Nat.le_of_ble_eq_true rfl) (fun X C hl hb r h => by
  subst hl; subst hb
  exact s_X11_arc_b0 C a1 a2 a3 S h)
/-! StyleRows.quotient(JJ)I -/
set_option maxRecDepth 100000 in
set_option maxHeartbeats 4000000 in
theorem s_X11_quotient_b16 {X : MC} (C : Cx X cX11_quotient RX11 wsX11_quotient 4 rmX11_quotient (some .int)) (w0 : Int32) (S : St) {r0 : Int32 × St} (h : f_X11_quotient_b16 w0 S = some r0) : G X (QM mkI X r0) S 16 [] [.int w0] := by
  unfold f_X11_quotient_b16 at h
  exact g_iret (pc := 16) C h dX11_quotient_16
set_option maxRecDepth 100000 in
set_option maxHeartbeats 4000000 in
theorem s_X11_quotient_b0 {X : MC} (C : Cx X cX11_quotient RX11 wsX11_quotient 4 rmX11_quotient (some .int)) (a1 : Int64) (a2 : Int64) (S : St) {r0 : Int32 × St} (h : f_X11_quotient_b0 a1 a2 S = some r0) : G X (QM mkI X r0) S 0 [(0, .long a1), (2, .long a2)] [] := by
  unfold f_X11_quotient_b0 at h
  refine g_lload_n (pc := 0) C dX11_quotient_0 rfl 1 rfl ?_
  refine g_lconst (pc := 1) (v := 0) C dX11_quotient_1 (by decide) ?_
  refine g_lcmp (pc := 2) C dX11_quotient_2 ?_
  refine g_if_gt (pc := 3) (tgt := 10) C h dX11_quotient_3 (by decide) (fun h => ?_) (fun h => ?_)
  · refine g_lload_n (pc := 10) C dX11_quotient_10 rfl 0 rfl ?_
    refine g_lload_n (pc := 11) C dX11_quotient_11 rfl 1 rfl ?_
    refine g_callS (pc := 12) C (c_J9_floorDiv_f86c9 (Xl X) (Xb X) a1 a2 S) gX11_quotient_J9_floorDiv_f86c9 rfl rfl rfl hd_J9_floorDiv_f86c9 ⟨Nat.le_of_ble_eq_true rfl, Nat.le_of_ble_eq_true rfl⟩ rfl rfl (Nat.le_of_ble_eq_true rfl) dX11_quotient_12 h (fun r2 S1 h => ?_)
    change G X _ S1 15 [(0, .long a1), (2, .long a2)] [.long r2]
    refine g_l2i (pc := 15) C dX11_quotient_15 ?_
    refine g_weak (lv1 := []) [] rfl ?_
    exact s_X11_quotient_b16 C (Int64.toInt32 r2)  S1 h
  · refine g_iconst (pc := 6) (v := 0) C dX11_quotient_6 (by decide) ?_
    refine g_goto (pc := 7) (tgt := 16) C dX11_quotient_7 (by decide) ?_
    refine g_weak (lv1 := []) [] rfl ?_
    exact s_X11_quotient_b16 C 0  S h
theorem c_X11_quotient (l : Launch) (b : Bw) (a1 : Int64) (a2 : Int64) (S : St) : Ct l b yX11_quotient wsX11_quotient rmX11_quotient [.long a1, .long a2] S mkI (f_X11_quotient a1 a2 S) := Ct.of (by decide +kernel) rfl (Nat.le_of_ble_eq_true rfl) (fun X C hl hb r h => by
  subst hl; subst hb
  exact s_X11_quotient_b0 C a1 a2 S h)
/-! StyleRows$Levels.at(I)I -/
set_option maxRecDepth 100000 in
set_option maxHeartbeats 4000000 in
theorem s_X2_at_b54 {X : MC} (C : Cx X cX2_at RX2 wsX2_at 6 rmX2_at (some .int)) (v3 : Int32) (S : St) {r0 : Int32 × St} (h : f_X2_at_b54 v3 S = some r0) : G X (QM mkI X r0) S 54 [(0, .ref (ad X 3)), (3, .int v3)] [] := by
  unfold f_X2_at_b54 at h
  refine g_aload_n (pc := 54) C dX2_at_54 rfl 0 rfl ?_
  refine g_get (pc := 55) C 3 (w_3 _ _) rfl 1 (Nat.le_of_ble_eq_true rfl) in_X2_X2_at k15_X2_at rfl dX2_at_55 ?_
  refine g_iload_n (pc := 58) C dX2_at_58 rfl 1 rfl ?_
  refine g_iald (pc := 59) C 19 (w_19 _ _) h dX2_at_59 (fun h => ?_)
  exact g_iret (pc := 60) C h dX2_at_60
set_option maxRecDepth 100000 in
set_option maxHeartbeats 4000000 in
theorem s_X2_at_b26 {X : MC} (C : Cx X cX2_at RX2 wsX2_at 6 rmX2_at (some .int)) (v1 : Int32) (v2 : Int32) (S : St) {r0 : Int32 × St} (h : f_X2_at_b26 v1 v2 S = some r0) : G X (QM mkI X r0) S 26 [(0, .ref (ad X 3)), (1, .int v1), (2, .int v2)] [] := by
  unfold f_X2_at_b26 at h
  refine g_iload_n (pc := 26) C dX2_at_26 rfl 2 rfl ?_
  refine g_if_ne (pc := 27) (tgt := 33) C h dX2_at_27 (by decide) (fun h => ?_) (fun h => ?_)
  · refine g_iload_n (pc := 33) C dX2_at_33 rfl 2 rfl ?_
    refine g_iconst (pc := 34) (v := 1) C dX2_at_34 (by decide) ?_
    refine g_isub (pc := 35) C dX2_at_35 ?_
    refine g_leti h (fun x1 h => ?_)
    refine g_istore_n (pc := 36) C [(3, .int x1), (0, .ref (ad X 3)), (1, .int v1), (2, .int v2)] dX2_at_36 rfl (Nat.le_of_ble_eq_true rfl) rfl ?_
    refine g_iload_n (pc := 37) C dX2_at_37 rfl 3 rfl ?_
    refine g_aload_n (pc := 38) C dX2_at_38 rfl 1 rfl ?_
    refine g_get (pc := 39) C 3 (w_3 _ _) rfl 3 (Nat.le_of_ble_eq_true rfl) in_X2_X2_at k22_X2_at rfl dX2_at_39 ?_
    refine g_icmp_eq (pc := 42) (tgt := 54) C h dX2_at_42 (by decide) (fun h => ?_) (fun h => ?_)
    · refine g_weak (lv1 := [(0, .ref (ad X 3)), (3, .int x1)]) [1, 0] rfl ?_
      exact s_X2_at_b54 C x1  S h
    · refine g_aload_n (pc := 45) C dX2_at_45 rfl 1 rfl ?_
      refine g_get (pc := 46) C 3 (w_3 _ _) rfl 2 (Nat.le_of_ble_eq_true rfl) in_X2_X2_at k18_X2_at rfl dX2_at_46 ?_
      refine g_iload_n (pc := 49) C dX2_at_49 rfl 3 rfl ?_
      refine g_zald (pc := 50) C 20 (w_20 _ _) h dX2_at_50 (fun h => ?_)
      refine g_if_ne (pc := 51) (tgt := 61) C h dX2_at_51 (by decide) (fun h => ?_) (fun h => ?_)
      · refine g_aload_n (pc := 61) C dX2_at_61 rfl 1 rfl ?_
        refine g_get (pc := 62) C 3 (w_3 _ _) rfl 1 (Nat.le_of_ble_eq_true rfl) in_X2_X2_at k15_X2_at rfl dX2_at_62 ?_
        refine g_iload_n (pc := 65) C dX2_at_65 rfl 3 rfl ?_
        refine g_iald (pc := 66) C 19 (w_19 _ _) h dX2_at_66 (fun h => ?_)
        refine g_aload_n (pc := 67) C dX2_at_67 rfl 1 rfl ?_
        refine g_get (pc := 68) C 3 (w_3 _ _) rfl 1 (Nat.le_of_ble_eq_true rfl) in_X2_X2_at k15_X2_at rfl dX2_at_68 ?_
        refine g_iload_n (pc := 71) C dX2_at_71 rfl 0 rfl ?_
        refine g_iald (pc := 72) C 19 (w_19 _ _) h dX2_at_72 (fun h => ?_)
        refine g_isub (pc := 73) C dX2_at_73 ?_
        refine g_i2l (pc := 74) C dX2_at_74 ?_
        refine g_iload_n (pc := 75) C dX2_at_75 rfl 2 rfl ?_
        refine g_aload_n (pc := 76) C dX2_at_76 rfl 1 rfl ?_
        refine g_get (pc := 77) C 3 (w_3 _ _) rfl 0 (Nat.le_of_ble_eq_true rfl) in_X2_X2_at k11_X2_at rfl dX2_at_77 ?_
        refine g_iload_n (pc := 80) C dX2_at_80 rfl 0 rfl ?_
        refine g_iald (pc := 81) C 18 (w_18 _ _) h dX2_at_81 (fun h => ?_)
        refine g_isub (pc := 82) C dX2_at_82 ?_
        refine g_i2l (pc := 83) C dX2_at_83 ?_
        refine g_lmul (pc := 84) C dX2_at_84 ?_
        refine g_letl h (fun y2 h => ?_)
        refine g_lstore (pc := 85) C [(4, .long y2), (3, .int x1), (0, .ref (ad X 3)), (1, .int v1), (2, .int v2)] dX2_at_85 (Nat.le_of_ble_eq_true rfl) rfl ?_
        refine g_aload_n (pc := 87) C dX2_at_87 rfl 2 rfl ?_
        refine g_get (pc := 88) C 3 (w_3 _ _) rfl 1 (Nat.le_of_ble_eq_true rfl) in_X2_X2_at k15_X2_at rfl dX2_at_88 ?_
        refine g_iload_n (pc := 91) C dX2_at_91 rfl 1 rfl ?_
        refine g_iald (pc := 92) C 19 (w_19 _ _) h dX2_at_92 (fun h => ?_)
        refine g_lload (pc := 93) C dX2_at_93 0 rfl ?_
        refine g_aload_n (pc := 95) C dX2_at_95 rfl 2 rfl ?_
        refine g_get (pc := 96) C 3 (w_3 _ _) rfl 0 (Nat.le_of_ble_eq_true rfl) in_X2_X2_at k11_X2_at rfl dX2_at_96 ?_
        refine g_iload_n (pc := 99) C dX2_at_99 rfl 4 rfl ?_
        refine g_iald (pc := 100) C 18 (w_18 _ _) h dX2_at_100 (fun h => ?_)
        refine g_aload_n (pc := 101) C dX2_at_101 rfl 2 rfl ?_
        refine g_get (pc := 102) C 3 (w_3 _ _) rfl 0 (Nat.le_of_ble_eq_true rfl) in_X2_X2_at k11_X2_at rfl dX2_at_102 ?_
        refine g_iload_n (pc := 105) C dX2_at_105 rfl 1 rfl ?_
        refine g_iald (pc := 106) C 18 (w_18 _ _) h dX2_at_106 (fun h => ?_)
        refine g_isub (pc := 107) C dX2_at_107 ?_
        refine g_i2l (pc := 108) C dX2_at_108 ?_
        refine g_callSN (pc := 109) C (c_X11_quotient (Xl X) (Xb X) y2 (Int32.toInt64 ((rd S 18 v2) - (rd S 18 x1))) S) gX2_at_X11_quotient_n30 rfl rfl rfl nw_X2_30 kiniX11_X2_at kstX11_quotient_X2_at hd_X11_quotient ⟨Nat.le_of_ble_eq_true rfl, Nat.le_of_ble_eq_true rfl⟩ rfl rfl (Nat.le_of_ble_eq_true rfl) dX2_at_109 h (fun r4 S3 h => ?_)
        change G X _ S3 112 [(4, .long y2), (3, .int x1), (0, .ref (ad X 3)), (1, .int v1), (2, .int v2)] [.int r4, .int (rd S 19 x1)]
        refine g_iadd (pc := 112) C dX2_at_112 ?_
        exact g_iret (pc := 113) C h dX2_at_113
      · refine g_weak (lv1 := [(0, .ref (ad X 3)), (3, .int x1)]) [1, 0] rfl ?_
        exact s_X2_at_b54 C x1  S h
  · refine g_bipush (pc := 30) (v := 64) C dX2_at_30 (by decide) ?_
    exact g_iret (pc := 32) C h dX2_at_32
set_option maxRecDepth 100000 in
set_option maxHeartbeats 4000000 in
theorem s_X2_at_b2 {X : MC} (C : Cx X cX2_at RX2 wsX2_at 6 rmX2_at (some .int)) {rec2 : Int32 × St → Option (Int32 × St)} (v1 : Int32) (v2 : Int32) (hrec2 : ∀ (s : Int32 × St) (r : Int32 × St), rec2 s = some r → G X (QM mkI X r) s.2 2 [(0, .ref (ad X 3)), (1, .int v1), (2, .int (s.1))] []) (S : St) {r0 : Int32 × St} (h : f_X2_at_b2 rec2 v1 v2 S = some r0) : G X (QM mkI X r0) S 2 [(0, .ref (ad X 3)), (1, .int v1), (2, .int v2)] [] := by
  unfold f_X2_at_b2 at h
  refine g_iload_n (pc := 2) C dX2_at_2 rfl 2 rfl ?_
  refine g_aload_n (pc := 3) C dX2_at_3 rfl 0 rfl ?_
  refine g_get (pc := 4) C 3 (w_3 _ _) rfl 3 (Nat.le_of_ble_eq_true rfl) in_X2_X2_at k22_X2_at rfl dX2_at_4 ?_
  refine g_icmp_ge (pc := 7) (tgt := 26) C h dX2_at_7 (by decide) (fun h => ?_) (fun h => ?_)
  · refine g_weak (lv1 := [(0, .ref (ad X 3)), (1, .int v1), (2, .int v2)]) [0, 1, 2] rfl ?_
    exact s_X2_at_b26 C v1 v2  S h
  · refine g_aload_n (pc := 10) C dX2_at_10 rfl 0 rfl ?_
    refine g_get (pc := 11) C 3 (w_3 _ _) rfl 0 (Nat.le_of_ble_eq_true rfl) in_X2_X2_at k11_X2_at rfl dX2_at_11 ?_
    refine g_iload_n (pc := 14) C dX2_at_14 rfl 2 rfl ?_
    refine g_iald (pc := 15) C 18 (w_18 _ _) h dX2_at_15 (fun h => ?_)
    refine g_iload_n (pc := 16) C dX2_at_16 rfl 1 rfl ?_
    refine g_icmp_gt (pc := 17) (tgt := 26) C h dX2_at_17 (by decide) (fun h => ?_) (fun h => ?_)
    · refine g_weak (lv1 := [(0, .ref (ad X 3)), (1, .int v1), (2, .int v2)]) [0, 1, 2] rfl ?_
      exact s_X2_at_b26 C v1 v2  S h
    · refine g_iinc (pc := 20) (v := v2 + 1) C [(2, .int (v2 + 1)), (0, .ref (ad X 3)), (1, .int v1)] dX2_at_20 2 rfl rfl (Nat.le_of_ble_eq_true rfl) rfl ?_
      refine g_goto (pc := 23) (tgt := 2) C dX2_at_23 (by decide) ?_
      refine g_weak (lv1 := [(0, .ref (ad X 3)), (1, .int v1), (2, .int (v2 + 1))]) [1, 2, 0] rfl ?_
      exact hrec2 (v2 + 1, S) _ h
set_option maxRecDepth 100000 in
set_option maxHeartbeats 4000000 in
theorem s_X2_at_l2 {X : MC} (C : Cx X cX2_at RX2 wsX2_at 6 rmX2_at (some .int)) (v1 : Int32) : ∀ (n : Nat) (s : Int32 × St) (r : Int32 × St), f_X2_at_l2 v1 n s = some r → G X (QM mkI X r) s.2 2 [(0, .ref (ad X 3)), (1, .int v1), (2, .int (s.1))] [] :=
  loop_sound (fun rec2 hrec2 s r h => s_X2_at_b2 C v1 s.1 hrec2 s.2 h)
set_option maxRecDepth 100000 in
set_option maxHeartbeats 4000000 in
theorem s_X2_at_b0 {X : MC} (C : Cx X cX2_at RX2 wsX2_at 6 rmX2_at (some .int)) (a1 : Int32) (S : St) {r0 : Int32 × St} (h : f_X2_at_b0 a1 S = some r0) : G X (QM mkI X r0) S 0 [(0, .ref (ad X 3)), (1, .int a1)] [] := by
  unfold f_X2_at_b0 at h
  refine g_iconst (pc := 0) (v := 0) C dX2_at_0 (by decide) ?_
  refine g_istore_n (pc := 1) C [(2, .int 0), (0, .ref (ad X 3)), (1, .int a1)] dX2_at_1 rfl (Nat.le_of_ble_eq_true rfl) rfl ?_
  refine g_weak (lv1 := [(0, .ref (ad X 3)), (1, .int a1), (2, .int 0)]) [1, 2, 0] rfl ?_
  exact s_X2_at_l2 C a1 _ (0, S) _ h
theorem c_X2_at (l : Launch) (b : Bw) (a1 : Int32) (S : St) : Ct l b yX2_at wsX2_at rmX2_at [.ref (bad b 3), .int a1] S mkI (f_X2_at a1 S) := Ct.of (by decide +kernel) rfl (Nat.le_of_ble_eq_true rfl) (fun X C hl hb r h => by
  subst hl; subst hb
  exact s_X2_at_b0 C a1 S h)
/-! StyleRows.levelAt(I)I -/
set_option maxRecDepth 100000 in
set_option maxHeartbeats 4000000 in
theorem s_X11_levelAt_b24 {X : MC} (C : Cx X cX11_levelAt RX11 wsX11_levelAt 2 rmX11_levelAt (some .int)) (w0 : Int32) (S : St) {r0 : Int32 × St} (h : f_X11_levelAt_b24 w0 S = some r0) : G X (QM mkI X r0) S 24 [] [.int w0] := by
  unfold f_X11_levelAt_b24 at h
  exact g_iret (pc := 24) C h dX11_levelAt_24
set_option maxRecDepth 100000 in
set_option maxHeartbeats 4000000 in
theorem s_X11_levelAt_b0 {X : MC} (C : Cx X cX11_levelAt RX11 wsX11_levelAt 2 rmX11_levelAt (some .int)) (a1 : Int32) (S : St) {r0 : Int32 × St} (h : f_X11_levelAt_b0 a1 S = some r0) : G X (QM mkI X r0) S 0 [(0, .ref (ad X 0)), (1, .int a1)] [] := by
  unfold f_X11_levelAt_b0 at h
  refine g_iload_n (pc := 0) C dX11_levelAt_0 rfl 1 rfl ?_
  refine g_callS (pc := 1) C (c_X11_isTick (Xl X) (Xb X) a1 S) gX11_levelAt_X11_isTick rfl rfl rfl hd_X11_isTick ⟨Nat.le_of_ble_eq_true rfl, Nat.le_of_ble_eq_true rfl⟩ rfl rfl (Nat.le_of_ble_eq_true rfl) dX11_levelAt_1 h (fun r2 S1 h => ?_)
  change G X _ S1 4 [(0, .ref (ad X 0)), (1, .int a1)] [.int r2]
  refine g_if_eq (pc := 4) (tgt := 21) C h dX11_levelAt_4 (by decide) (fun h => ?_) (fun h => ?_)
  · refine g_sipush (pc := 21) (v := (-1002)) C dX11_levelAt_21 (by decide) ?_
    refine g_weak (lv1 := []) [] rfl ?_
    exact s_X11_levelAt_b24 C (-1002)  S1 h
  · refine g_aload_n (pc := 7) C dX11_levelAt_7 rfl 0 rfl ?_
    refine g_get (pc := 8) C 0 (w_0 _ _) rfl 1 (Nat.le_of_ble_eq_true rfl) in_X11_X11_levelAt k16_X11_levelAt rfl dX11_levelAt_8 ?_
    refine g_getN (pc := 11) C 1 (w_1 _ _) rfl 1 (Nat.le_of_ble_eq_true rfl) in_X9_X11_levelAt nw_X11_90 rfl dX11_levelAt_11 ?_
    refine g_iload_n (pc := 14) C dX11_levelAt_14 rfl 1 rfl ?_
    refine g_callV (pc := 15) C 3 (c_X2_at (Xl X) (Xb X) a1 S1) gX11_levelAt_X2_at rfl rfl rfl hd_X2_at ⟨Nat.le_of_ble_eq_true rfl, Nat.le_of_ble_eq_true rfl⟩ (w_3 _ _) rfl rfl rfl (Nat.le_of_ble_eq_true rfl) dX11_levelAt_15 h (fun r4 S3 h => ?_)
    change G X _ S3 18 [(0, .ref (ad X 0)), (1, .int a1)] [.int r4]
    refine g_goto (pc := 18) (tgt := 24) C dX11_levelAt_18 (by decide) ?_
    refine g_weak (lv1 := []) [] rfl ?_
    exact s_X11_levelAt_b24 C r4  S3 h
theorem c_X11_levelAt (l : Launch) (b : Bw) (a1 : Int32) (S : St) : Ct l b yX11_levelAt wsX11_levelAt rmX11_levelAt [.ref (bad b 0), .int a1] S mkI (f_X11_levelAt a1 S) := Ct.of (by decide +kernel) rfl (Nat.le_of_ble_eq_true rfl) (fun X C hl hb r h => by
  subst hl; subst hb
  exact s_X11_levelAt_b0 C a1 S h)
/-! StyleRows$Arcs.bent(I)I -/
set_option maxRecDepth 100000 in
set_option maxHeartbeats 4000000 in
theorem s_X0_bent_b2 {X : MC} (C : Cx X cX0_bent RX0 wsX0_bent 5 rmX0_bent (some .int)) {rec2 : Int32 × St → Option (Int32 × St)} (v1 : Int32) (v2 : Int32) (hrec2 : ∀ (s : Int32 × St) (r : Int32 × St), rec2 s = some r → G X (QM mkI X r) s.2 2 [(0, .ref (ad X 4)), (1, .int v1), (2, .int (s.1))] []) (S : St) {r0 : Int32 × St} (h : f_X0_bent_b2 rec2 v1 v2 S = some r0) : G X (QM mkI X r0) S 2 [(0, .ref (ad X 4)), (1, .int v1), (2, .int v2)] [] := by
  unfold f_X0_bent_b2 at h
  refine g_iload_n (pc := 2) C dX0_bent_2 rfl 2 rfl ?_
  refine g_aload_n (pc := 3) C dX0_bent_3 rfl 0 rfl ?_
  refine g_get (pc := 4) C 4 (w_4 _ _) rfl 3 (Nat.le_of_ble_eq_true rfl) in_X0_X0_bent k21_X0_bent rfl dX0_bent_4 ?_
  refine g_icmp_ge (pc := 7) (tgt := 90) C h dX0_bent_7 (by decide) (fun h => ?_) (fun h => ?_)
  · refine g_iload_n (pc := 90) C dX0_bent_90 rfl 1 rfl ?_
    exact g_iret (pc := 91) C h dX0_bent_91
  · refine g_iload_n (pc := 10) C dX0_bent_10 rfl 1 rfl ?_
    refine g_aload_n (pc := 11) C dX0_bent_11 rfl 0 rfl ?_
    refine g_get (pc := 12) C 4 (w_4 _ _) rfl 0 (Nat.le_of_ble_eq_true rfl) in_X0_X0_bent k11_X0_bent rfl dX0_bent_12 ?_
    refine g_iload_n (pc := 15) C dX0_bent_15 rfl 2 rfl ?_
    refine g_iald (pc := 16) C 21 (w_21 _ _) h dX0_bent_16 (fun h => ?_)
    refine g_aload_n (pc := 17) C dX0_bent_17 rfl 0 rfl ?_
    refine g_get (pc := 18) C 4 (w_4 _ _) rfl 1 (Nat.le_of_ble_eq_true rfl) in_X0_X0_bent k15_X0_bent rfl dX0_bent_18 ?_
    refine g_iload_n (pc := 21) C dX0_bent_21 rfl 2 rfl ?_
    refine g_iald (pc := 22) C 22 (w_22 _ _) h dX0_bent_22 (fun h => ?_)
    refine g_callSN (pc := 23) C (c_X11_isWithin (Xl X) (Xb X) v1 (rd S 21 v2) (rd S 22 v2) S) gX0_bent_X11_isWithin_n34 rfl rfl rfl nw_X0_34 kiniX11_X0_bent kstX11_isWithin_X0_bent hd_X11_isWithin ⟨Nat.le_of_ble_eq_true rfl, Nat.le_of_ble_eq_true rfl⟩ rfl rfl (Nat.le_of_ble_eq_true rfl) dX0_bent_23 h (fun r2 S1 h => ?_)
    change G X _ S1 26 [(0, .ref (ad X 4)), (1, .int v1), (2, .int v2)] [.int r2]
    refine g_if_eq (pc := 26) (tgt := 84) C h dX0_bent_26 (by decide) (fun h => ?_) (fun h => ?_)
    · refine g_iinc (pc := 84) (v := v2 + 1) C [(2, .int (v2 + 1)), (0, .ref (ad X 4)), (1, .int v1)] dX0_bent_84 2 rfl rfl (Nat.le_of_ble_eq_true rfl) rfl ?_
      refine g_goto (pc := 87) (tgt := 2) C dX0_bent_87 (by decide) ?_
      refine g_weak (lv1 := [(0, .ref (ad X 4)), (1, .int v1), (2, .int (v2 + 1))]) [1, 2, 0] rfl ?_
      exact hrec2 (v2 + 1, S1) _ h
    · refine g_aload_n (pc := 29) C dX0_bent_29 rfl 0 rfl ?_
      refine g_get (pc := 30) C 4 (w_4 _ _) rfl 1 (Nat.le_of_ble_eq_true rfl) in_X0_X0_bent k15_X0_bent rfl dX0_bent_30 ?_
      refine g_iload_n (pc := 33) C dX0_bent_33 rfl 2 rfl ?_
      refine g_iald (pc := 34) C 22 (w_22 _ _) h dX0_bent_34 (fun h => ?_)
      refine g_aload_n (pc := 35) C dX0_bent_35 rfl 0 rfl ?_
      refine g_get (pc := 36) C 4 (w_4 _ _) rfl 0 (Nat.le_of_ble_eq_true rfl) in_X0_X0_bent k11_X0_bent rfl dX0_bent_36 ?_
      refine g_iload_n (pc := 39) C dX0_bent_39 rfl 2 rfl ?_
      refine g_iald (pc := 40) C 21 (w_21 _ _) h dX0_bent_40 (fun h => ?_)
      refine g_isub (pc := 41) C dX0_bent_41 ?_
      refine g_i2l (pc := 42) C dX0_bent_42 ?_
      refine g_letl h (fun y3 h => ?_)
      refine g_lstore_n (pc := 43) C [(3, .long y3), (0, .ref (ad X 4)), (1, .int v1), (2, .int v2)] dX0_bent_43 rfl (Nat.le_of_ble_eq_true rfl) rfl ?_
      refine g_iload_n (pc := 44) C dX0_bent_44 rfl 2 rfl ?_
      refine g_ldc2 (pc := 45) (v := 4) C k38_X0_bent dX0_bent_45 ?_
      refine g_aload_n (pc := 48) C dX0_bent_48 rfl 1 rfl ?_
      refine g_get (pc := 49) C 4 (w_4 _ _) rfl 2 (Nat.le_of_ble_eq_true rfl) in_X0_X0_bent k18_X0_bent rfl dX0_bent_49 ?_
      refine g_iload_n (pc := 52) C dX0_bent_52 rfl 3 rfl ?_
      refine g_iald (pc := 53) C 23 (w_23 _ _) h dX0_bent_53 (fun h => ?_)
      refine g_i2l (pc := 54) C dX0_bent_54 ?_
      refine g_lmul (pc := 55) C dX0_bent_55 ?_
      refine g_iload_n (pc := 56) C dX0_bent_56 rfl 2 rfl ?_
      refine g_aload_n (pc := 57) C dX0_bent_57 rfl 1 rfl ?_
      refine g_get (pc := 58) C 4 (w_4 _ _) rfl 0 (Nat.le_of_ble_eq_true rfl) in_X0_X0_bent k11_X0_bent rfl dX0_bent_58 ?_
      refine g_iload_n (pc := 61) C dX0_bent_61 rfl 3 rfl ?_
      refine g_iald (pc := 62) C 21 (w_21 _ _) h dX0_bent_62 (fun h => ?_)
      refine g_isub (pc := 63) C dX0_bent_63 ?_
      refine g_i2l (pc := 64) C dX0_bent_64 ?_
      refine g_lmul (pc := 65) C dX0_bent_65 ?_
      refine g_aload_n (pc := 66) C dX0_bent_66 rfl 1 rfl ?_
      refine g_get (pc := 67) C 4 (w_4 _ _) rfl 1 (Nat.le_of_ble_eq_true rfl) in_X0_X0_bent k15_X0_bent rfl dX0_bent_67 ?_
      refine g_iload_n (pc := 70) C dX0_bent_70 rfl 3 rfl ?_
      refine g_iald (pc := 71) C 22 (w_22 _ _) h dX0_bent_71 (fun h => ?_)
      refine g_iload_n (pc := 72) C dX0_bent_72 rfl 2 rfl ?_
      refine g_isub (pc := 73) C dX0_bent_73 ?_
      refine g_i2l (pc := 74) C dX0_bent_74 ?_
      refine g_lmul (pc := 75) C dX0_bent_75 ?_
      refine g_lload_n (pc := 76) C dX0_bent_76 rfl 0 rfl ?_
      refine g_lload_n (pc := 77) C dX0_bent_77 rfl 0 rfl ?_
      refine g_lmul (pc := 78) C dX0_bent_78 ?_
      refine g_callSN (pc := 79) C (c_X11_quotient (Xl X) (Xb X) (((4 * (Int32.toInt64 (rd S1 23 v2))) * (Int32.toInt64 (v1 - (rd S1 21 v2)))) * (Int32.toInt64 ((rd S1 22 v2) - v1))) (y3 * y3) S1) gX0_bent_X11_quotient_n40 rfl rfl rfl nw_X0_40 kiniX11_X0_bent kstX11_quotient_X0_bent hd_X11_quotient ⟨Nat.le_of_ble_eq_true rfl, Nat.le_of_ble_eq_true rfl⟩ rfl rfl (Nat.le_of_ble_eq_true rfl) dX0_bent_79 h (fun r5 S4 h => ?_)
      change G X _ S4 82 [(3, .long y3), (0, .ref (ad X 4)), (1, .int v1), (2, .int v2)] [.int r5, .int v1]
      refine g_iadd (pc := 82) C dX0_bent_82 ?_
      exact g_iret (pc := 83) C h dX0_bent_83
set_option maxRecDepth 100000 in
set_option maxHeartbeats 4000000 in
theorem s_X0_bent_l2 {X : MC} (C : Cx X cX0_bent RX0 wsX0_bent 5 rmX0_bent (some .int)) (v1 : Int32) : ∀ (n : Nat) (s : Int32 × St) (r : Int32 × St), f_X0_bent_l2 v1 n s = some r → G X (QM mkI X r) s.2 2 [(0, .ref (ad X 4)), (1, .int v1), (2, .int (s.1))] [] :=
  loop_sound (fun rec2 hrec2 s r h => s_X0_bent_b2 C v1 s.1 hrec2 s.2 h)
set_option maxRecDepth 100000 in
set_option maxHeartbeats 4000000 in
theorem s_X0_bent_b0 {X : MC} (C : Cx X cX0_bent RX0 wsX0_bent 5 rmX0_bent (some .int)) (a1 : Int32) (S : St) {r0 : Int32 × St} (h : f_X0_bent_b0 a1 S = some r0) : G X (QM mkI X r0) S 0 [(0, .ref (ad X 4)), (1, .int a1)] [] := by
  unfold f_X0_bent_b0 at h
  refine g_iconst (pc := 0) (v := 0) C dX0_bent_0 (by decide) ?_
  refine g_istore_n (pc := 1) C [(2, .int 0), (0, .ref (ad X 4)), (1, .int a1)] dX0_bent_1 rfl (Nat.le_of_ble_eq_true rfl) rfl ?_
  refine g_weak (lv1 := [(0, .ref (ad X 4)), (1, .int a1), (2, .int 0)]) [1, 2, 0] rfl ?_
  exact s_X0_bent_l2 C a1 _ (0, S) _ h
theorem c_X0_bent (l : Launch) (b : Bw) (a1 : Int32) (S : St) : Ct l b yX0_bent wsX0_bent rmX0_bent [.ref (bad b 4), .int a1] S mkI (f_X0_bent a1 S) := Ct.of (by decide +kernel) rfl (Nat.le_of_ble_eq_true rfl) (fun X C hl hb r h => by
  subst hl; subst hb
  exact s_X0_bent_b0 C a1 S h)
/-! StyleRows.timeOf(I)I -/
set_option maxRecDepth 100000 in
set_option maxHeartbeats 4000000 in
theorem s_X11_timeOf_b24 {X : MC} (C : Cx X cX11_timeOf RX11 wsX11_timeOf 2 rmX11_timeOf (some .int)) (w0 : Int32) (S : St) {r0 : Int32 × St} (h : f_X11_timeOf_b24 w0 S = some r0) : G X (QM mkI X r0) S 24 [] [.int w0] := by
  unfold f_X11_timeOf_b24 at h
  exact g_iret (pc := 24) C h dX11_timeOf_24
set_option maxRecDepth 100000 in
set_option maxHeartbeats 4000000 in
theorem s_X11_timeOf_b0 {X : MC} (C : Cx X cX11_timeOf RX11 wsX11_timeOf 2 rmX11_timeOf (some .int)) (a1 : Int32) (S : St) {r0 : Int32 × St} (h : f_X11_timeOf_b0 a1 S = some r0) : G X (QM mkI X r0) S 0 [(0, .ref (ad X 0)), (1, .int a1)] [] := by
  unfold f_X11_timeOf_b0 at h
  refine g_iload_n (pc := 0) C dX11_timeOf_0 rfl 1 rfl ?_
  refine g_callS (pc := 1) C (c_X11_isTick (Xl X) (Xb X) a1 S) gX11_timeOf_X11_isTick rfl rfl rfl hd_X11_isTick ⟨Nat.le_of_ble_eq_true rfl, Nat.le_of_ble_eq_true rfl⟩ rfl rfl (Nat.le_of_ble_eq_true rfl) dX11_timeOf_1 h (fun r2 S1 h => ?_)
  change G X _ S1 4 [(0, .ref (ad X 0)), (1, .int a1)] [.int r2]
  refine g_if_eq (pc := 4) (tgt := 21) C h dX11_timeOf_4 (by decide) (fun h => ?_) (fun h => ?_)
  · refine g_sipush (pc := 21) (v := (-1002)) C dX11_timeOf_21 (by decide) ?_
    refine g_weak (lv1 := []) [] rfl ?_
    exact s_X11_timeOf_b24 C (-1002)  S1 h
  · refine g_aload_n (pc := 7) C dX11_timeOf_7 rfl 0 rfl ?_
    refine g_get (pc := 8) C 0 (w_0 _ _) rfl 1 (Nat.le_of_ble_eq_true rfl) in_X11_X11_timeOf k16_X11_timeOf rfl dX11_timeOf_8 ?_
    refine g_getN (pc := 11) C 1 (w_1 _ _) rfl 2 (Nat.le_of_ble_eq_true rfl) in_X9_X11_timeOf nw_X11_104 rfl dX11_timeOf_11 ?_
    refine g_iload_n (pc := 14) C dX11_timeOf_14 rfl 1 rfl ?_
    refine g_callV (pc := 15) C 4 (c_X0_bent (Xl X) (Xb X) a1 S1) gX11_timeOf_X0_bent rfl rfl rfl hd_X0_bent ⟨Nat.le_of_ble_eq_true rfl, Nat.le_of_ble_eq_true rfl⟩ (w_4 _ _) rfl rfl rfl (Nat.le_of_ble_eq_true rfl) dX11_timeOf_15 h (fun r4 S3 h => ?_)
    change G X _ S3 18 [(0, .ref (ad X 0)), (1, .int a1)] [.int r4]
    refine g_goto (pc := 18) (tgt := 24) C dX11_timeOf_18 (by decide) ?_
    refine g_weak (lv1 := []) [] rfl ?_
    exact s_X11_timeOf_b24 C r4  S3 h
theorem c_X11_timeOf (l : Launch) (b : Bw) (a1 : Int32) (S : St) : Ct l b yX11_timeOf wsX11_timeOf rmX11_timeOf [.ref (bad b 0), .int a1] S mkI (f_X11_timeOf a1 S) := Ct.of (by decide +kernel) rfl (Nat.le_of_ble_eq_true rfl) (fun X C hl hb r h => by
  subst hl; subst hb
  exact s_X11_timeOf_b0 C a1 S h)
/-! StyleRows$Tape.append(IJ)I -/
set_option maxRecDepth 100000 in
set_option maxHeartbeats 4000000 in
theorem s_X10_append_b21 {X : MC} (C : Cx X cX10_append RX10 wsX10_append 5 rmX10_append (some .int)) {rec21 : Int32 × St → Option (Int32 × St)} (v2 : Int64) (v4 : Int32) (hrec21 : ∀ (s : Int32 × St) (r : Int32 × St), rec21 s = some r → G X (QM mkI X r) s.2 21 [(0, .ref (ad X 5)), (2, .long v2), (4, .int (s.1))] []) (S : St) {r0 : Int32 × St} (h : f_X10_append_b21 rec21 v2 v4 S = some r0) : G X (QM mkI X r0) S 21 [(0, .ref (ad X 5)), (2, .long v2), (4, .int v4)] [] := by
  unfold f_X10_append_b21 at h
  refine g_iload (pc := 21) C dX10_append_21 2 rfl ?_
  refine g_if_lt (pc := 23) (tgt := 60) C h dX10_append_23 (by decide) (fun h => ?_) (fun h => ?_)
  · refine g_aload_n (pc := 60) C dX10_append_60 rfl 0 rfl ?_
    refine g_get (pc := 61) C 5 (w_5 _ _) rfl 1 (Nat.le_of_ble_eq_true rfl) in_X10_X10_append k15_X10_append rfl dX10_append_61 ?_
    exact g_iret (pc := 64) C h dX10_append_64
  · refine g_aload_n (pc := 26) C dX10_append_26 rfl 0 rfl ?_
    refine g_get (pc := 27) C 5 (w_5 _ _) rfl 0 (Nat.le_of_ble_eq_true rfl) in_X10_X10_append k11_X10_append rfl dX10_append_27 ?_
    refine g_aload_n (pc := 30) C dX10_append_30 rfl 0 rfl ?_
    refine g_get (pc := 31) C 5 (w_5 _ _) rfl 1 (Nat.le_of_ble_eq_true rfl) in_X10_X10_append k15_X10_append rfl dX10_append_31 ?_
    refine g_lload_n (pc := 34) C dX10_append_34 rfl 1 rfl ?_
    refine g_bipush (pc := 35) (v := 8) C dX10_append_35 (by decide) ?_
    refine g_iload (pc := 37) C dX10_append_37 2 rfl ?_
    refine g_imul (pc := 39) C dX10_append_39 ?_
    refine g_lushr (pc := 40) C dX10_append_40 ?_
    refine g_l2i (pc := 41) C dX10_append_41 ?_
    refine g_i2b (pc := 42) C dX10_append_42 ?_
    refine g_bast (pc := 43) C 24 (w_24 _ _) (ws_24 _ _) h dX10_append_43 (fun S2 h => ?_)
    refine g_aload_n (pc := 44) C dX10_append_44 rfl 0 rfl ?_
    refine g_dup (pc := 45) C dX10_append_45 rfl ?_
    refine g_get (pc := 46) C 5 (w_5 _ _) rfl 1 (Nat.le_of_ble_eq_true rfl) in_X10_X10_append k15_X10_append rfl dX10_append_46 ?_
    refine g_iconst (pc := 49) (v := 1) C dX10_append_49 (by decide) ?_
    refine g_iadd (pc := 50) C dX10_append_50 ?_
    refine g_put (pc := 51) C 5 (w_5 _ _) rfl 1 (Nat.le_of_ble_eq_true rfl) in_X10_X10_append tyX10_ok nmX10 k15_X10_append rfl rfl rfl (Nat.le_of_ble_eq_true rfl) (ws_5_1 _ _ _) dX10_append_51 h (fun S3 h => ?_)
    refine g_iinc (pc := 54) (v := v4 + (-1)) C [(4, .int (v4 + (-1))), (0, .ref (ad X 5)), (2, .long v2)] dX10_append_54 2 rfl rfl (Nat.le_of_ble_eq_true rfl) rfl ?_
    refine g_goto (pc := 57) (tgt := 21) C dX10_append_57 (by decide) ?_
    refine g_weak (lv1 := [(0, .ref (ad X 5)), (2, .long v2), (4, .int (v4 + (-1)))]) [1, 2, 0] rfl ?_
    exact hrec21 (v4 + (-1), S3) _ h
set_option maxRecDepth 100000 in
set_option maxHeartbeats 4000000 in
theorem s_X10_append_l21 {X : MC} (C : Cx X cX10_append RX10 wsX10_append 5 rmX10_append (some .int)) (v2 : Int64) : ∀ (n : Nat) (s : Int32 × St) (r : Int32 × St), f_X10_append_l21 v2 n s = some r → G X (QM mkI X r) s.2 21 [(0, .ref (ad X 5)), (2, .long v2), (4, .int (s.1))] [] :=
  loop_sound (fun rec21 hrec21 s r h => s_X10_append_b21 C v2 s.1 hrec21 s.2 h)
set_option maxRecDepth 100000 in
set_option maxHeartbeats 4000000 in
theorem s_X10_append_b0 {X : MC} (C : Cx X cX10_append RX10 wsX10_append 5 rmX10_append (some .int)) (a1 : Int32) (a2 : Int64) (S : St) {r0 : Int32 × St} (h : f_X10_append_b0 a1 a2 S = some r0) : G X (QM mkI X r0) S 0 [(0, .ref (ad X 5)), (1, .int a1), (2, .long a2)] [] := by
  unfold f_X10_append_b0 at h
  refine g_iload_n (pc := 0) C dX10_append_0 rfl 1 rfl ?_
  refine g_sipush (pc := 1) (v := 400) C dX10_append_1 (by decide) ?_
  refine g_aload_n (pc := 4) C dX10_append_4 rfl 0 rfl ?_
  refine g_get (pc := 5) C 5 (w_5 _ _) rfl 1 (Nat.le_of_ble_eq_true rfl) in_X10_X10_append k15_X10_append rfl dX10_append_5 ?_
  refine g_isub (pc := 8) C dX10_append_8 ?_
  refine g_icmp_le (pc := 9) (tgt := 16) C h dX10_append_9 (by decide) (fun h => ?_) (fun h => ?_)
  · refine g_iload_n (pc := 16) C dX10_append_16 rfl 1 rfl ?_
    refine g_iconst (pc := 17) (v := 1) C dX10_append_17 (by decide) ?_
    refine g_isub (pc := 18) C dX10_append_18 ?_
    refine g_leti h (fun x1 h => ?_)
    refine g_istore (pc := 19) C [(4, .int x1), (0, .ref (ad X 5)), (1, .int a1), (2, .long a2)] dX10_append_19 (Nat.le_of_ble_eq_true rfl) rfl ?_
    refine g_weak (lv1 := [(0, .ref (ad X 5)), (2, .long a2), (4, .int x1)]) [1, 3, 0] rfl ?_
    exact s_X10_append_l21 C a2 _ (x1, S) _ h
  · refine g_sipush (pc := 12) (v := (-1004)) C dX10_append_12 (by decide) ?_
    exact g_iret (pc := 15) C h dX10_append_15
theorem c_X10_append (l : Launch) (b : Bw) (a1 : Int32) (a2 : Int64) (S : St) : Ct l b yX10_append wsX10_append rmX10_append [.ref (bad b 5), .int a1, .long a2] S mkI (f_X10_append a1 a2 S) := Ct.of (by decide +kernel) rfl (Nat.le_of_ble_eq_true rfl) (fun X C hl hb r h => by
  subst hl; subst hb
  exact s_X10_append_b0 C a1 a2 S h)
/-! StyleRows.feed(IJ)I -/
set_option maxRecDepth 100000 in
set_option maxHeartbeats 4000000 in
theorem s_X11_feed_b25 {X : MC} (C : Cx X cX11_feed RX11 wsX11_feed 4 rmX11_feed (some .int)) (w0 : Int32) (S : St) {r0 : Int32 × St} (h : f_X11_feed_b25 w0 S = some r0) : G X (QM mkI X r0) S 25 [] [.int w0] := by
  unfold f_X11_feed_b25 at h
  exact g_iret (pc := 25) C h dX11_feed_25
set_option maxRecDepth 100000 in
set_option maxHeartbeats 4000000 in
theorem s_X11_feed_b0 {X : MC} (C : Cx X cX11_feed RX11 wsX11_feed 4 rmX11_feed (some .int)) (a1 : Int32) (a2 : Int64) (S : St) {r0 : Int32 × St} (h : f_X11_feed_b0 a1 a2 S = some r0) : G X (QM mkI X r0) S 0 [(0, .ref (ad X 0)), (1, .int a1), (2, .long a2)] [] := by
  unfold f_X11_feed_b0 at h
  refine g_iload_n (pc := 0) C dX11_feed_0 rfl 1 rfl ?_
  refine g_iconst (pc := 1) (v := 1) C dX11_feed_1 (by decide) ?_
  refine g_bipush (pc := 2) (v := 8) C dX11_feed_2 (by decide) ?_
  refine g_callS (pc := 4) C (c_X11_isWithin (Xl X) (Xb X) a1 1 8 S) gX11_feed_X11_isWithin rfl rfl rfl hd_X11_isWithin ⟨Nat.le_of_ble_eq_true rfl, Nat.le_of_ble_eq_true rfl⟩ rfl rfl (Nat.le_of_ble_eq_true rfl) dX11_feed_4 h (fun r2 S1 h => ?_)
  change G X _ S1 7 [(0, .ref (ad X 0)), (1, .int a1), (2, .long a2)] [.int r2]
  refine g_if_eq (pc := 7) (tgt := 22) C h dX11_feed_7 (by decide) (fun h => ?_) (fun h => ?_)
  · refine g_sipush (pc := 22) (v := (-1002)) C dX11_feed_22 (by decide) ?_
    refine g_weak (lv1 := []) [] rfl ?_
    exact s_X11_feed_b25 C (-1002)  S1 h
  · refine g_aload_n (pc := 10) C dX11_feed_10 rfl 0 rfl ?_
    refine g_get (pc := 11) C 0 (w_0 _ _) rfl 2 (Nat.le_of_ble_eq_true rfl) in_X11_X11_feed k23_X11_feed rfl dX11_feed_11 ?_
    refine g_iload_n (pc := 14) C dX11_feed_14 rfl 1 rfl ?_
    refine g_lload_n (pc := 15) C dX11_feed_15 rfl 2 rfl ?_
    refine g_callV (pc := 16) C 5 (c_X10_append (Xl X) (Xb X) a1 a2 S1) gX11_feed_X10_append rfl rfl rfl hd_X10_append ⟨Nat.le_of_ble_eq_true rfl, Nat.le_of_ble_eq_true rfl⟩ (w_5 _ _) rfl rfl rfl (Nat.le_of_ble_eq_true rfl) dX11_feed_16 h (fun r4 S3 h => ?_)
    change G X _ S3 19 [(0, .ref (ad X 0)), (1, .int a1), (2, .long a2)] [.int r4]
    refine g_goto (pc := 19) (tgt := 25) C dX11_feed_19 (by decide) ?_
    refine g_weak (lv1 := []) [] rfl ?_
    exact s_X11_feed_b25 C r4  S3 h
theorem c_X11_feed (l : Launch) (b : Bw) (a1 : Int32) (a2 : Int64) (S : St) : Ct l b yX11_feed wsX11_feed rmX11_feed [.ref (bad b 0), .int a1, .long a2] S mkI (f_X11_feed a1 a2 S) := Ct.of (by decide +kernel) rfl (Nat.le_of_ble_eq_true rfl) (fun X C hl hb r h => by
  subst hl; subst hb
  exact s_X11_feed_b0 C a1 a2 S h)
/-! StyleRows$Rules.dropStaged()V -/
set_option maxRecDepth 100000 in
set_option maxHeartbeats 4000000 in
theorem s_X8_dropStaged_b0 {X : MC} (C : Cx X cX8_dropStaged RX8 wsX8_dropStaged 1 rmX8_dropStaged none) (S : St) {r0 : Unit × St} (h : f_X8_dropStaged_b0 S = some r0) : G X (QM mkV X r0) S 0 [(0, .ref (ad X 6))] [] := by
  unfold f_X8_dropStaged_b0 at h
  refine g_aload_n (pc := 0) C dX8_dropStaged_0 rfl 0 rfl ?_
  refine g_aload_n (pc := 1) C dX8_dropStaged_1 rfl 0 rfl ?_
  refine g_get (pc := 2) C 6 (w_6 _ _) rfl 2 (Nat.le_of_ble_eq_true rfl) in_X8_X8_dropStaged k26_X8_dropStaged rfl dX8_dropStaged_2 ?_
  refine g_put (pc := 5) C 6 (w_6 _ _) rfl 3 (Nat.le_of_ble_eq_true rfl) in_X8_X8_dropStaged tyX8_ok nmX8 k30_X8_dropStaged rfl rfl rfl (Nat.le_of_ble_eq_true rfl) (ws_6_3 _ _ _) dX8_dropStaged_5 h (fun S1 h => ?_)
  exact g_vret (pc := 8) C h dX8_dropStaged_8
theorem c_X8_dropStaged (l : Launch) (b : Bw) (S : St) : Ct l b yX8_dropStaged wsX8_dropStaged rmX8_dropStaged [.ref (bad b 6)] S mkV (f_X8_dropStaged S) := Ct.of (by decide +kernel) rfl (Nat.le_of_ble_eq_true rfl) (fun X C hl hb r h => by
  subst hl; subst hb
  exact s_X8_dropStaged_b0 C S h)
/-! StyleRows$Tape.at(I)I -/
set_option maxRecDepth 100000 in
set_option maxHeartbeats 4000000 in
theorem s_X10_at_b27 {X : MC} (C : Cx X cX10_at RX10 wsX10_at 2 rmX10_at (some .int)) (w0 : Int32) (S : St) {r0 : Int32 × St} (h : f_X10_at_b27 w0 S = some r0) : G X (QM mkI X r0) S 27 [] [.int w0] := by
  unfold f_X10_at_b27 at h
  exact g_iret (pc := 27) C h dX10_at_27
set_option maxRecDepth 100000 in
set_option maxHeartbeats 4000000 in
theorem s_X10_at_b26 {X : MC} (C : Cx X cX10_at RX10 wsX10_at 2 rmX10_at (some .int)) (S : St) {r0 : Int32 × St} (h : f_X10_at_b26 S = some r0) : G X (QM mkI X r0) S 26 [] [] := by
  unfold f_X10_at_b26 at h
  refine g_iconst (pc := 26) (v := (-1)) C dX10_at_26 (by decide) ?_
  refine g_weak (lv1 := []) [] rfl ?_
  exact s_X10_at_b27 C (-1)  S h
set_option maxRecDepth 100000 in
set_option maxHeartbeats 4000000 in
theorem s_X10_at_b0 {X : MC} (C : Cx X cX10_at RX10 wsX10_at 2 rmX10_at (some .int)) (a1 : Int32) (S : St) {r0 : Int32 × St} (h : f_X10_at_b0 a1 S = some r0) : G X (QM mkI X r0) S 0 [(0, .ref (ad X 5)), (1, .int a1)] [] := by
  unfold f_X10_at_b0 at h
  refine g_iconst (pc := 0) (v := 0) C dX10_at_0 (by decide) ?_
  refine g_iload_n (pc := 1) C dX10_at_1 rfl 1 rfl ?_
  refine g_icmp_gt (pc := 2) (tgt := 26) C h dX10_at_2 (by decide) (fun h => ?_) (fun h => ?_)
  · refine g_weak (lv1 := []) [] rfl ?_
    exact s_X10_at_b26 C   S h
  · refine g_iload_n (pc := 5) C dX10_at_5 rfl 1 rfl ?_
    refine g_aload_n (pc := 6) C dX10_at_6 rfl 0 rfl ?_
    refine g_get (pc := 7) C 5 (w_5 _ _) rfl 1 (Nat.le_of_ble_eq_true rfl) in_X10_X10_at k15_X10_at rfl dX10_at_7 ?_
    refine g_icmp_ge (pc := 10) (tgt := 26) C h dX10_at_10 (by decide) (fun h => ?_) (fun h => ?_)
    · refine g_weak (lv1 := []) [] rfl ?_
      exact s_X10_at_b26 C   S h
    · refine g_aload_n (pc := 13) C dX10_at_13 rfl 0 rfl ?_
      refine g_get (pc := 14) C 5 (w_5 _ _) rfl 0 (Nat.le_of_ble_eq_true rfl) in_X10_X10_at k11_X10_at rfl dX10_at_14 ?_
      refine g_iload_n (pc := 17) C dX10_at_17 rfl 1 rfl ?_
      refine g_bald (pc := 18) C 24 (w_24 _ _) h dX10_at_18 (fun h => ?_)
      refine g_sipush (pc := 19) (v := 255) C dX10_at_19 (by decide) ?_
      refine g_iand (pc := 22) C dX10_at_22 ?_
      refine g_goto (pc := 23) (tgt := 27) C dX10_at_23 (by decide) ?_
      refine g_weak (lv1 := []) [] rfl ?_
      exact s_X10_at_b27 C ((rd S 24 a1) &&& 255)  S h
theorem c_X10_at (l : Launch) (b : Bw) (a1 : Int32) (S : St) : Ct l b yX10_at wsX10_at rmX10_at [.ref (bad b 5), .int a1] S mkI (f_X10_at a1 S) := Ct.of (by decide +kernel) rfl (Nat.le_of_ble_eq_true rfl) (fun X C hl hb r h => by
  subst hl; subst hb
  exact s_X10_at_b0 C a1 S h)
/-! StyleRows$Reader.kindAt(LStyleRows$Tape;I)I -/
set_option maxRecDepth 100000 in
set_option maxHeartbeats 4000000 in
theorem s_X7_kindAt_b25 {X : MC} (C : Cx X cX7_kindAt RX7 wsX7_kindAt 3 rmX7_kindAt (some .int)) (S : St) {r0 : Int32 × St} (h : f_X7_kindAt_b25 S = some r0) : G X (QM mkI X r0) S 25 [] [] := by
  unfold f_X7_kindAt_b25 at h
  refine g_iconst (pc := 25) (v := 1) C dX7_kindAt_25 (by decide) ?_
  exact g_iret (pc := 26) C h dX7_kindAt_26
set_option maxRecDepth 100000 in
set_option maxHeartbeats 4000000 in
theorem s_X7_kindAt_b56 {X : MC} (C : Cx X cX7_kindAt RX7 wsX7_kindAt 3 rmX7_kindAt (some .int)) (w0 : Int32) (S : St) {r0 : Int32 × St} (h : f_X7_kindAt_b56 w0 S = some r0) : G X (QM mkI X r0) S 56 [] [.int w0] := by
  unfold f_X7_kindAt_b56 at h
  exact g_iret (pc := 56) C h dX7_kindAt_56
set_option maxRecDepth 100000 in
set_option maxHeartbeats 4000000 in
theorem s_X7_kindAt_b0 {X : MC} (C : Cx X cX7_kindAt RX7 wsX7_kindAt 3 rmX7_kindAt (some .int)) (a2 : Int32) (S : St) {r0 : Int32 × St} (h : f_X7_kindAt_b0 a2 S = some r0) : G X (QM mkI X r0) S 0 [(0, .ref (ad X 5)), (1, .int a2)] [] := by
  unfold f_X7_kindAt_b0 at h
  refine g_aload_n (pc := 0) C dX7_kindAt_0 rfl 0 rfl ?_
  refine g_iload_n (pc := 1) C dX7_kindAt_1 rfl 1 rfl ?_
  refine g_callV (pc := 2) C 5 (c_X10_at (Xl X) (Xb X) a2 S) gX7_kindAt_X10_at rfl rfl rfl hd_X10_at ⟨Nat.le_of_ble_eq_true rfl, Nat.le_of_ble_eq_true rfl⟩ (w_5 _ _) rfl rfl rfl (Nat.le_of_ble_eq_true rfl) dX7_kindAt_2 h (fun r2 S1 h => ?_)
  change G X _ S1 5 [(0, .ref (ad X 5)), (1, .int a2)] [.int r2]
  refine g_istore_n (pc := 5) C [(2, .int r2), (0, .ref (ad X 5)), (1, .int a2)] dX7_kindAt_5 rfl (Nat.le_of_ble_eq_true rfl) rfl ?_
  refine g_iload_n (pc := 6) C dX7_kindAt_6 rfl 0 rfl ?_
  refine g_iconst (pc := 7) (v := (-1)) C dX7_kindAt_7 (by decide) ?_
  refine g_icmp_ne (pc := 8) (tgt := 13) C h dX7_kindAt_8 (by decide) (fun h => ?_) (fun h => ?_)
  · refine g_iload_n (pc := 13) C dX7_kindAt_13 rfl 0 rfl ?_
    refine g_bipush (pc := 14) (v := 32) C dX7_kindAt_14 (by decide) ?_
    refine g_icmp_eq (pc := 16) (tgt := 25) C h dX7_kindAt_16 (by decide) (fun h => ?_) (fun h => ?_)
    · refine g_weak (lv1 := []) [] rfl ?_
      exact s_X7_kindAt_b25 C   S1 h
    · refine g_iload_n (pc := 19) C dX7_kindAt_19 rfl 0 rfl ?_
      refine g_bipush (pc := 20) (v := 10) C dX7_kindAt_20 (by decide) ?_
      refine g_icmp_ne (pc := 22) (tgt := 27) C h dX7_kindAt_22 (by decide) (fun h => ?_) (fun h => ?_)
      · refine g_iload_n (pc := 27) C dX7_kindAt_27 rfl 0 rfl ?_
        refine g_bipush (pc := 28) (v := 97) C dX7_kindAt_28 (by decide) ?_
        refine g_bipush (pc := 30) (v := 122) C dX7_kindAt_30 (by decide) ?_
        refine g_callSN (pc := 32) C (c_X11_isWithin (Xl X) (Xb X) r2 97 122 S1) gX7_kindAt_X11_isWithin_n83 rfl rfl rfl nw_X7_83 kiniX11_X7_kindAt kstX11_isWithin_X7_kindAt hd_X11_isWithin ⟨Nat.le_of_ble_eq_true rfl, Nat.le_of_ble_eq_true rfl⟩ rfl rfl (Nat.le_of_ble_eq_true rfl) dX7_kindAt_32 h (fun r4 S3 h => ?_)
        change G X _ S3 35 [(2, .int r2), (0, .ref (ad X 5)), (1, .int a2)] [.int r4]
        refine g_if_eq (pc := 35) (tgt := 40) C h dX7_kindAt_35 (by decide) (fun h => ?_) (fun h => ?_)
        · refine g_iload_n (pc := 40) C dX7_kindAt_40 rfl 0 rfl ?_
          refine g_bipush (pc := 41) (v := 48) C dX7_kindAt_41 (by decide) ?_
          refine g_bipush (pc := 43) (v := 57) C dX7_kindAt_43 (by decide) ?_
          refine g_callSN (pc := 45) C (c_X11_isWithin (Xl X) (Xb X) r2 48 57 S3) gX7_kindAt_X11_isWithin_n83 rfl rfl rfl nw_X7_83 kiniX11_X7_kindAt kstX11_isWithin_X7_kindAt hd_X11_isWithin ⟨Nat.le_of_ble_eq_true rfl, Nat.le_of_ble_eq_true rfl⟩ rfl rfl (Nat.le_of_ble_eq_true rfl) dX7_kindAt_45 h (fun r6 S5 h => ?_)
          change G X _ S5 48 [(2, .int r2), (0, .ref (ad X 5)), (1, .int a2)] [.int r6]
          refine g_if_eq (pc := 48) (tgt := 55) C h dX7_kindAt_48 (by decide) (fun h => ?_) (fun h => ?_)
          · refine g_iconst (pc := 55) (v := 4) C dX7_kindAt_55 (by decide) ?_
            refine g_weak (lv1 := []) [] rfl ?_
            exact s_X7_kindAt_b56 C 4  S5 h
          · refine g_iconst (pc := 51) (v := 3) C dX7_kindAt_51 (by decide) ?_
            refine g_goto (pc := 52) (tgt := 56) C dX7_kindAt_52 (by decide) ?_
            refine g_weak (lv1 := []) [] rfl ?_
            exact s_X7_kindAt_b56 C 3  S5 h
        · refine g_iconst (pc := 38) (v := 2) C dX7_kindAt_38 (by decide) ?_
          exact g_iret (pc := 39) C h dX7_kindAt_39
      · refine g_weak (lv1 := []) [] rfl ?_
        exact s_X7_kindAt_b25 C   S1 h
  · refine g_iconst (pc := 11) (v := 0) C dX7_kindAt_11 (by decide) ?_
    exact g_iret (pc := 12) C h dX7_kindAt_12
theorem c_X7_kindAt (l : Launch) (b : Bw) (a2 : Int32) (S : St) : Ct l b yX7_kindAt wsX7_kindAt rmX7_kindAt [.ref (bad b 5), .int a2] S mkI (f_X7_kindAt a2 S) := Ct.of (by decide +kernel) rfl (Nat.le_of_ble_eq_true rfl) (fun X C hl hb r h => by
  subst hl; subst hb
  exact s_X7_kindAt_b0 C a2 S h)
/-! StyleRows$Reader.takePiece(LStyleRows$Tape;)V -/
set_option maxRecDepth 100000 in
set_option maxHeartbeats 4000000 in
theorem s_X7_takePiece_b136 {X : MC} (C : Cx X cX7_takePiece RX7 wsX7_takePiece 2 rmX7_takePiece none) (S : St) {r0 : Unit × St} (h : f_X7_takePiece_b136 S = some r0) : G X (QM mkV X r0) S 136 [] [] := by
  unfold f_X7_takePiece_b136 at h
  exact g_vret (pc := 136) C h dX7_takePiece_136
set_option maxRecDepth 100000 in
set_option maxHeartbeats 4000000 in
theorem s_X7_takePiece_b97 {X : MC} (C : Cx X cX7_takePiece RX7 wsX7_takePiece 2 rmX7_takePiece none) {rec97 : St → Option (Unit × St)} (hrec97 : ∀ (s : St) (r : Unit × St), rec97 s = some r → G X (QM mkV X r) s 97 [(0, .ref (ad X 7)), (1, .ref (ad X 5))] []) (S : St) {r0 : Unit × St} (h : f_X7_takePiece_b97 rec97 S = some r0) : G X (QM mkV X r0) S 97 [(0, .ref (ad X 7)), (1, .ref (ad X 5))] [] := by
  unfold f_X7_takePiece_b97 at h
  refine g_aload_n (pc := 97) C dX7_takePiece_97 rfl 0 rfl ?_
  refine g_get (pc := 98) C 7 (w_7 _ _) rfl 1 (Nat.le_of_ble_eq_true rfl) in_X7_X7_takePiece k14_X7_takePiece rfl dX7_takePiece_98 ?_
  refine g_aload_n (pc := 101) C dX7_takePiece_101 rfl 1 rfl ?_
  refine g_getN (pc := 102) C 5 (w_5 _ _) rfl 1 (Nat.le_of_ble_eq_true rfl) in_X10_X7_takePiece nw_X7_101 rfl dX7_takePiece_102 ?_
  refine g_icmp_ge (pc := 105) (tgt := 136) C h dX7_takePiece_105 (by decide) (fun h => ?_) (fun h => ?_)
  · refine g_weak (lv1 := []) [] rfl ?_
    exact s_X7_takePiece_b136 C   S h
  · refine g_aload_n (pc := 108) C dX7_takePiece_108 rfl 1 rfl ?_
    refine g_aload_n (pc := 109) C dX7_takePiece_109 rfl 0 rfl ?_
    refine g_get (pc := 110) C 7 (w_7 _ _) rfl 1 (Nat.le_of_ble_eq_true rfl) in_X7_X7_takePiece k14_X7_takePiece rfl dX7_takePiece_110 ?_
    refine g_callS (pc := 113) C (c_X7_kindAt (Xl X) (Xb X) (gI S 9) S) gX7_takePiece_X7_kindAt rfl rfl rfl hd_X7_kindAt ⟨Nat.le_of_ble_eq_true rfl, Nat.le_of_ble_eq_true rfl⟩ rfl rfl (Nat.le_of_ble_eq_true rfl) dX7_takePiece_113 h (fun r7 S6 h => ?_)
    change G X _ S6 116 [(0, .ref (ad X 7)), (1, .ref (ad X 5))] [.int r7]
    refine g_aload_n (pc := 116) C dX7_takePiece_116 rfl 0 rfl ?_
    refine g_get (pc := 117) C 7 (w_7 _ _) rfl 2 (Nat.le_of_ble_eq_true rfl) in_X7_X7_takePiece k24_X7_takePiece rfl dX7_takePiece_117 ?_
    refine g_icmp_ne (pc := 120) (tgt := 136) C h dX7_takePiece_120 (by decide) (fun h => ?_) (fun h => ?_)
    · refine g_weak (lv1 := []) [] rfl ?_
      exact s_X7_takePiece_b136 C   S6 h
    · refine g_aload_n (pc := 123) C dX7_takePiece_123 rfl 0 rfl ?_
      refine g_dup (pc := 124) C dX7_takePiece_124 rfl ?_
      refine g_get (pc := 125) C 7 (w_7 _ _) rfl 1 (Nat.le_of_ble_eq_true rfl) in_X7_X7_takePiece k14_X7_takePiece rfl dX7_takePiece_125 ?_
      refine g_iconst (pc := 128) (v := 1) C dX7_takePiece_128 (by decide) ?_
      refine g_iadd (pc := 129) C dX7_takePiece_129 ?_
      refine g_put (pc := 130) C 7 (w_7 _ _) rfl 1 (Nat.le_of_ble_eq_true rfl) in_X7_X7_takePiece tyX7_ok nmX7 k14_X7_takePiece rfl rfl rfl (Nat.le_of_ble_eq_true rfl) (ws_7_1 _ _ _) dX7_takePiece_130 h (fun S8 h => ?_)
      refine g_goto (pc := 133) (tgt := 97) C dX7_takePiece_133 (by decide) ?_
      refine g_weak (lv1 := [(0, .ref (ad X 7)), (1, .ref (ad X 5))]) [0, 1] rfl ?_
      exact hrec97 S8 _ h
set_option maxRecDepth 100000 in
set_option maxHeartbeats 4000000 in
theorem s_X7_takePiece_l97 {X : MC} (C : Cx X cX7_takePiece RX7 wsX7_takePiece 2 rmX7_takePiece none) : ∀ (n : Nat) (s : St) (r : Unit × St), f_X7_takePiece_l97 n s = some r → G X (QM mkV X r) s 97 [(0, .ref (ad X 7)), (1, .ref (ad X 5))] [] :=
  loop_sound (fun rec97 hrec97 s r h => s_X7_takePiece_b97 C  hrec97 s h)
set_option maxRecDepth 100000 in
set_option maxHeartbeats 4000000 in
theorem s_X7_takePiece_b77 {X : MC} (C : Cx X cX7_takePiece RX7 wsX7_takePiece 2 rmX7_takePiece none) (w1 : Int32) (S : St) {r0 : Unit × St} (h : f_X7_takePiece_b77 w1 S = some r0) : G X (QM mkV X r0) S 77 [(0, .ref (ad X 7)), (1, .ref (ad X 5))] [.int w1, .ref (ad X 7)] := by
  unfold f_X7_takePiece_b77 at h
  refine g_put (pc := 77) C 7 (w_7 _ _) rfl 1 (Nat.le_of_ble_eq_true rfl) in_X7_X7_takePiece tyX7_ok nmX7 k14_X7_takePiece rfl rfl rfl (Nat.le_of_ble_eq_true rfl) (ws_7_1 _ _ _) dX7_takePiece_77 h (fun S5 h => ?_)
  refine g_aload_n (pc := 80) C dX7_takePiece_80 rfl 0 rfl ?_
  refine g_get (pc := 81) C 7 (w_7 _ _) rfl 2 (Nat.le_of_ble_eq_true rfl) in_X7_X7_takePiece k24_X7_takePiece rfl dX7_takePiece_81 ?_
  refine g_iconst (pc := 84) (v := 2) C dX7_takePiece_84 (by decide) ?_
  refine g_icmp_eq (pc := 85) (tgt := 97) C h dX7_takePiece_85 (by decide) (fun h => ?_) (fun h => ?_)
  · refine g_weak (lv1 := [(0, .ref (ad X 7)), (1, .ref (ad X 5))]) [0, 1] rfl ?_
    exact s_X7_takePiece_l97 C  _ S5 _ h
  · refine g_aload_n (pc := 88) C dX7_takePiece_88 rfl 0 rfl ?_
    refine g_get (pc := 89) C 7 (w_7 _ _) rfl 2 (Nat.le_of_ble_eq_true rfl) in_X7_X7_takePiece k24_X7_takePiece rfl dX7_takePiece_89 ?_
    refine g_iconst (pc := 92) (v := 3) C dX7_takePiece_92 (by decide) ?_
    refine g_icmp_eq (pc := 93) (tgt := 97) C h dX7_takePiece_93 (by decide) (fun h => ?_) (fun h => ?_)
    · refine g_weak (lv1 := [(0, .ref (ad X 7)), (1, .ref (ad X 5))]) [0, 1] rfl ?_
      exact s_X7_takePiece_l97 C  _ S5 _ h
    · exact g_vret (pc := 96) C h dX7_takePiece_96
set_option maxRecDepth 100000 in
set_option maxHeartbeats 4000000 in
theorem s_X7_takePiece_b44 {X : MC} (C : Cx X cX7_takePiece RX7 wsX7_takePiece 2 rmX7_takePiece none) (S : St) {r0 : Unit × St} (h : f_X7_takePiece_b44 S = some r0) : G X (QM mkV X r0) S 44 [(0, .ref (ad X 7)), (1, .ref (ad X 5))] [] := by
  unfold f_X7_takePiece_b44 at h
  refine g_aload_n (pc := 44) C dX7_takePiece_44 rfl 0 rfl ?_
  refine g_aload_n (pc := 45) C dX7_takePiece_45 rfl 1 rfl ?_
  refine g_aload_n (pc := 46) C dX7_takePiece_46 rfl 0 rfl ?_
  refine g_get (pc := 47) C 7 (w_7 _ _) rfl 0 (Nat.le_of_ble_eq_true rfl) in_X7_X7_takePiece k31_X7_takePiece rfl dX7_takePiece_47 ?_
  refine g_callS (pc := 50) C (c_X7_kindAt (Xl X) (Xb X) (gI S 8) S) gX7_takePiece_X7_kindAt rfl rfl rfl hd_X7_kindAt ⟨Nat.le_of_ble_eq_true rfl, Nat.le_of_ble_eq_true rfl⟩ rfl rfl (Nat.le_of_ble_eq_true rfl) dX7_takePiece_50 h (fun r3 S2 h => ?_)
  change G X _ S2 53 [(0, .ref (ad X 7)), (1, .ref (ad X 5))] [.int r3, .ref (ad X 7)]
  refine g_put (pc := 53) C 7 (w_7 _ _) rfl 2 (Nat.le_of_ble_eq_true rfl) in_X7_X7_takePiece tyX7_ok nmX7 k24_X7_takePiece rfl rfl rfl (Nat.le_of_ble_eq_true rfl) (ws_7_2 _ _ _) dX7_takePiece_53 h (fun S4 h => ?_)
  refine g_aload_n (pc := 56) C dX7_takePiece_56 rfl 0 rfl ?_
  refine g_aload_n (pc := 57) C dX7_takePiece_57 rfl 0 rfl ?_
  refine g_get (pc := 58) C 7 (w_7 _ _) rfl 2 (Nat.le_of_ble_eq_true rfl) in_X7_X7_takePiece k24_X7_takePiece rfl dX7_takePiece_58 ?_
  refine g_if_ne (pc := 61) (tgt := 71) C h dX7_takePiece_61 (by decide) (fun h => ?_) (fun h => ?_)
  · refine g_aload_n (pc := 71) C dX7_takePiece_71 rfl 0 rfl ?_
    refine g_get (pc := 72) C 7 (w_7 _ _) rfl 0 (Nat.le_of_ble_eq_true rfl) in_X7_X7_takePiece k31_X7_takePiece rfl dX7_takePiece_72 ?_
    refine g_iconst (pc := 75) (v := 1) C dX7_takePiece_75 (by decide) ?_
    refine g_iadd (pc := 76) C dX7_takePiece_76 ?_
    refine g_weak (lv1 := [(0, .ref (ad X 7)), (1, .ref (ad X 5))]) [0, 1] rfl ?_
    exact s_X7_takePiece_b77 C ((gI S4 8) + 1)  S4 h
  · refine g_aload_n (pc := 64) C dX7_takePiece_64 rfl 0 rfl ?_
    refine g_get (pc := 65) C 7 (w_7 _ _) rfl 0 (Nat.le_of_ble_eq_true rfl) in_X7_X7_takePiece k31_X7_takePiece rfl dX7_takePiece_65 ?_
    refine g_goto (pc := 68) (tgt := 77) C dX7_takePiece_68 (by decide) ?_
    refine g_weak (lv1 := [(0, .ref (ad X 7)), (1, .ref (ad X 5))]) [0, 1] rfl ?_
    exact s_X7_takePiece_b77 C (gI S4 8)  S4 h
set_option maxRecDepth 100000 in
set_option maxHeartbeats 4000000 in
theorem s_X7_takePiece_b8 {X : MC} (C : Cx X cX7_takePiece RX7 wsX7_takePiece 2 rmX7_takePiece none) {rec8 : St → Option (Unit × St)} (hrec8 : ∀ (s : St) (r : Unit × St), rec8 s = some r → G X (QM mkV X r) s 8 [(0, .ref (ad X 7)), (1, .ref (ad X 5))] []) (S : St) {r0 : Unit × St} (h : f_X7_takePiece_b8 rec8 S = some r0) : G X (QM mkV X r0) S 8 [(0, .ref (ad X 7)), (1, .ref (ad X 5))] [] := by
  unfold f_X7_takePiece_b8 at h
  refine g_aload_n (pc := 8) C dX7_takePiece_8 rfl 0 rfl ?_
  refine g_get (pc := 9) C 7 (w_7 _ _) rfl 0 (Nat.le_of_ble_eq_true rfl) in_X7_X7_takePiece k31_X7_takePiece rfl dX7_takePiece_9 ?_
  refine g_aload_n (pc := 12) C dX7_takePiece_12 rfl 1 rfl ?_
  refine g_getN (pc := 13) C 5 (w_5 _ _) rfl 1 (Nat.le_of_ble_eq_true rfl) in_X10_X7_takePiece nw_X7_101 rfl dX7_takePiece_13 ?_
  refine g_icmp_ge (pc := 16) (tgt := 44) C h dX7_takePiece_16 (by decide) (fun h => ?_) (fun h => ?_)
  · refine g_weak (lv1 := [(0, .ref (ad X 7)), (1, .ref (ad X 5))]) [0, 1] rfl ?_
    exact s_X7_takePiece_b44 C   S h
  · refine g_aload_n (pc := 19) C dX7_takePiece_19 rfl 1 rfl ?_
    refine g_aload_n (pc := 20) C dX7_takePiece_20 rfl 0 rfl ?_
    refine g_get (pc := 21) C 7 (w_7 _ _) rfl 0 (Nat.le_of_ble_eq_true rfl) in_X7_X7_takePiece k31_X7_takePiece rfl dX7_takePiece_21 ?_
    refine g_callS (pc := 24) C (c_X7_kindAt (Xl X) (Xb X) (gI S 8) S) gX7_takePiece_X7_kindAt rfl rfl rfl hd_X7_kindAt ⟨Nat.le_of_ble_eq_true rfl, Nat.le_of_ble_eq_true rfl⟩ rfl rfl (Nat.le_of_ble_eq_true rfl) dX7_takePiece_24 h (fun r10 S9 h => ?_)
    change G X _ S9 27 [(0, .ref (ad X 7)), (1, .ref (ad X 5))] [.int r10]
    refine g_iconst (pc := 27) (v := 1) C dX7_takePiece_27 (by decide) ?_
    refine g_icmp_ne (pc := 28) (tgt := 44) C h dX7_takePiece_28 (by decide) (fun h => ?_) (fun h => ?_)
    · refine g_weak (lv1 := [(0, .ref (ad X 7)), (1, .ref (ad X 5))]) [0, 1] rfl ?_
      exact s_X7_takePiece_b44 C   S9 h
    · refine g_aload_n (pc := 31) C dX7_takePiece_31 rfl 0 rfl ?_
      refine g_dup (pc := 32) C dX7_takePiece_32 rfl ?_
      refine g_get (pc := 33) C 7 (w_7 _ _) rfl 0 (Nat.le_of_ble_eq_true rfl) in_X7_X7_takePiece k31_X7_takePiece rfl dX7_takePiece_33 ?_
      refine g_iconst (pc := 36) (v := 1) C dX7_takePiece_36 (by decide) ?_
      refine g_iadd (pc := 37) C dX7_takePiece_37 ?_
      refine g_put (pc := 38) C 7 (w_7 _ _) rfl 0 (Nat.le_of_ble_eq_true rfl) in_X7_X7_takePiece tyX7_ok nmX7 k31_X7_takePiece rfl rfl rfl (Nat.le_of_ble_eq_true rfl) (ws_7_0 _ _ _) dX7_takePiece_38 h (fun S11 h => ?_)
      refine g_goto (pc := 41) (tgt := 8) C dX7_takePiece_41 (by decide) ?_
      refine g_weak (lv1 := [(0, .ref (ad X 7)), (1, .ref (ad X 5))]) [0, 1] rfl ?_
      exact hrec8 S11 _ h
set_option maxRecDepth 100000 in
set_option maxHeartbeats 4000000 in
theorem s_X7_takePiece_l8 {X : MC} (C : Cx X cX7_takePiece RX7 wsX7_takePiece 2 rmX7_takePiece none) : ∀ (n : Nat) (s : St) (r : Unit × St), f_X7_takePiece_l8 n s = some r → G X (QM mkV X r) s 8 [(0, .ref (ad X 7)), (1, .ref (ad X 5))] [] :=
  loop_sound (fun rec8 hrec8 s r h => s_X7_takePiece_b8 C  hrec8 s h)
set_option maxRecDepth 100000 in
set_option maxHeartbeats 4000000 in
theorem s_X7_takePiece_b0 {X : MC} (C : Cx X cX7_takePiece RX7 wsX7_takePiece 2 rmX7_takePiece none) (S : St) {r0 : Unit × St} (h : f_X7_takePiece_b0 S = some r0) : G X (QM mkV X r0) S 0 [(0, .ref (ad X 7)), (1, .ref (ad X 5))] [] := by
  unfold f_X7_takePiece_b0 at h
  refine g_aload_n (pc := 0) C dX7_takePiece_0 rfl 0 rfl ?_
  refine g_aload_n (pc := 1) C dX7_takePiece_1 rfl 0 rfl ?_
  refine g_get (pc := 2) C 7 (w_7 _ _) rfl 1 (Nat.le_of_ble_eq_true rfl) in_X7_X7_takePiece k14_X7_takePiece rfl dX7_takePiece_2 ?_
  refine g_put (pc := 5) C 7 (w_7 _ _) rfl 0 (Nat.le_of_ble_eq_true rfl) in_X7_X7_takePiece tyX7_ok nmX7 k31_X7_takePiece rfl rfl rfl (Nat.le_of_ble_eq_true rfl) (ws_7_0 _ _ _) dX7_takePiece_5 h (fun S1 h => ?_)
  refine g_weak (lv1 := [(0, .ref (ad X 7)), (1, .ref (ad X 5))]) [0, 1] rfl ?_
  exact s_X7_takePiece_l8 C  _ S1 _ h
theorem c_X7_takePiece (l : Launch) (b : Bw) (S : St) : Ct l b yX7_takePiece wsX7_takePiece rmX7_takePiece [.ref (bad b 7), .ref (bad b 5)] S mkV (f_X7_takePiece S) := Ct.of (by decide +kernel) rfl (Nat.le_of_ble_eq_true rfl) (fun X C hl hb r h => by
  subst hl; subst hb
  exact s_X7_takePiece_b0 C S h)
/-! StyleRows$Rules.areFull()Z -/
set_option maxRecDepth 100000 in
set_option maxHeartbeats 4000000 in
theorem s_X8_areFull_b14 {X : MC} (C : Cx X cX8_areFull RX8 wsX8_areFull 1 rmX8_areFull (some .boolean)) (w0 : Int32) (S : St) {r0 : Int32 × St} (h : f_X8_areFull_b14 w0 S = some r0) : G X (QM mkI X r0) S 14 [] [.int w0] := by
  unfold f_X8_areFull_b14 at h
  exact g_zret (pc := 14) C h dX8_areFull_14
set_option maxRecDepth 100000 in
set_option maxHeartbeats 4000000 in
theorem s_X8_areFull_b0 {X : MC} (C : Cx X cX8_areFull RX8 wsX8_areFull 1 rmX8_areFull (some .boolean)) (S : St) {r0 : Int32 × St} (h : f_X8_areFull_b0 S = some r0) : G X (QM mkI X r0) S 0 [(0, .ref (ad X 6))] [] := by
  unfold f_X8_areFull_b0 at h
  refine g_aload_n (pc := 0) C dX8_areFull_0 rfl 0 rfl ?_
  refine g_get (pc := 1) C 6 (w_6 _ _) rfl 3 (Nat.le_of_ble_eq_true rfl) in_X8_X8_areFull k30_X8_areFull rfl dX8_areFull_1 ?_
  refine g_bipush (pc := 4) (v := 24) C dX8_areFull_4 (by decide) ?_
  refine g_icmp_lt (pc := 6) (tgt := 13) C h dX8_areFull_6 (by decide) (fun h => ?_) (fun h => ?_)
  · refine g_iconst (pc := 13) (v := 0) C dX8_areFull_13 (by decide) ?_
    refine g_weak (lv1 := []) [] rfl ?_
    exact s_X8_areFull_b14 C 0  S h
  · refine g_iconst (pc := 9) (v := 1) C dX8_areFull_9 (by decide) ?_
    refine g_goto (pc := 10) (tgt := 14) C dX8_areFull_10 (by decide) ?_
    refine g_weak (lv1 := []) [] rfl ?_
    exact s_X8_areFull_b14 C 1  S h
theorem c_X8_areFull (l : Launch) (b : Bw) (S : St) : Ct l b yX8_areFull wsX8_areFull rmX8_areFull [.ref (bad b 6)] S mkI (f_X8_areFull S) := Ct.of (by decide +kernel) rfl (Nat.le_of_ble_eq_true rfl) (fun X C hl hb r h => by
  subst hl; subst hb
  exact s_X8_areFull_b0 C S h)
/-! StyleRows$Reader.isWord(LStyleRows$Tape;Ljava/lang/String;)Z -/
set_option maxRecDepth 100000 in
set_option maxHeartbeats 4000000 in
theorem s_X7_isWord_b24 {X : MC} (C : Cx X cX7_isWord RX7 wsX7_isWord 4 rmX7_isWord (some .boolean)) (S : St) {r0 : Int32 × St} (h : f_X7_isWord_b24 S = some r0) : G X (QM mkI X r0) S 24 [] [] := by
  unfold f_X7_isWord_b24 at h
  refine g_iconst (pc := 24) (v := 0) C dX7_isWord_24 (by decide) ?_
  exact g_zretc (pc := 25) C rfl h dX7_isWord_25
set_option maxRecDepth 100000 in
set_option maxHeartbeats 4000000 in
theorem s_X7_isWord_b28 {X : MC} (C : Cx X cX7_isWord RX7 wsX7_isWord 4 rmX7_isWord (some .boolean)) {rec28 : Int32 × St → Option (Int32 × St)} (v2 : Nat) (v3 : Int32) (hrec28 : ∀ (s : Int32 × St) (r : Int32 × St), rec28 s = some r → G X (QM mkI X r) s.2 28 [(0, .ref (ad X 7)), (1, .ref (ad X 5)), (2, .ref (bK (Xb X) v2)), (3, .int (s.1))] []) (S : St) {r0 : Int32 × St} (h : f_X7_isWord_b28 rec28 v2 v3 S = some r0) : G X (QM mkI X r0) S 28 [(0, .ref (ad X 7)), (1, .ref (ad X 5)), (2, .ref (bK (Xb X) v2)), (3, .int v3)] [] := by
  unfold f_X7_isWord_b28 at h
  refine g_iload_n (pc := 28) C dX7_isWord_28 rfl 3 rfl ?_
  refine g_aload_n (pc := 29) C dX7_isWord_29 rfl 2 rfl ?_
  obtain ⟨hs6, h⟩ := chk_some h
  refine g_callT (pc := 30) C v2 (of_decide_eq_true hs6) (c_J0_length_8abf5 (Xl X) (Xb X) v2 S) gX7_isWord_J0_length_8abf5 rfl rfl rfl hd_J0_length_8abf5 ⟨Nat.le_of_ble_eq_true rfl, Nat.le_of_ble_eq_true rfl⟩ rfl rfl (Nat.le_of_ble_eq_true rfl) dX7_isWord_30 h (fun r5 S4 h => ?_)
  change G X _ S4 33 [(0, .ref (ad X 7)), (1, .ref (ad X 5)), (2, .ref (bK (Xb X) v2)), (3, .int v3)] [.int r5, .int v3]
  refine g_icmp_ge (pc := 33) (tgt := 62) C h dX7_isWord_33 (by decide) (fun h => ?_) (fun h => ?_)
  · refine g_iconst (pc := 62) (v := 1) C dX7_isWord_62 (by decide) ?_
    exact g_zretc (pc := 63) C rfl h dX7_isWord_63
  · refine g_aload_n (pc := 36) C dX7_isWord_36 rfl 1 rfl ?_
    refine g_aload_n (pc := 37) C dX7_isWord_37 rfl 0 rfl ?_
    refine g_get (pc := 38) C 7 (w_7 _ _) rfl 0 (Nat.le_of_ble_eq_true rfl) in_X7_X7_isWord k31_X7_isWord rfl dX7_isWord_38 ?_
    refine g_iload_n (pc := 41) C dX7_isWord_41 rfl 3 rfl ?_
    refine g_iadd (pc := 42) C dX7_isWord_42 ?_
    refine g_callV (pc := 43) C 5 (c_X10_at (Xl X) (Xb X) ((gI S4 8) + v3) S4) gX7_isWord_X10_at rfl rfl rfl hd_X10_at ⟨Nat.le_of_ble_eq_true rfl, Nat.le_of_ble_eq_true rfl⟩ (w_5 _ _) rfl rfl rfl (Nat.le_of_ble_eq_true rfl) dX7_isWord_43 h (fun r8 S7 h => ?_)
    change G X _ S7 46 [(0, .ref (ad X 7)), (1, .ref (ad X 5)), (2, .ref (bK (Xb X) v2)), (3, .int v3)] [.int r8]
    refine g_aload_n (pc := 46) C dX7_isWord_46 rfl 2 rfl ?_
    refine g_iload_n (pc := 47) C dX7_isWord_47 rfl 3 rfl ?_
    obtain ⟨hs11, h⟩ := chk_some h
    refine g_callT (pc := 48) C v2 (of_decide_eq_true hs11) (c_J0_charAt_5068e (Xl X) (Xb X) v2 v3 S7) gX7_isWord_J0_charAt_5068e rfl rfl rfl hd_J0_charAt_5068e ⟨Nat.le_of_ble_eq_true rfl, Nat.le_of_ble_eq_true rfl⟩ rfl rfl (Nat.le_of_ble_eq_true rfl) dX7_isWord_48 h (fun r10 S9 h => ?_)
    change G X _ S9 51 [(0, .ref (ad X 7)), (1, .ref (ad X 5)), (2, .ref (bK (Xb X) v2)), (3, .int v3)] [.int r10, .int r8]
    refine g_icmp_eq (pc := 51) (tgt := 56) C h dX7_isWord_51 (by decide) (fun h => ?_) (fun h => ?_)
    · refine g_iinc (pc := 56) (v := v3 + 1) C [(3, .int (v3 + 1)), (0, .ref (ad X 7)), (1, .ref (ad X 5)), (2, .ref (bK (Xb X) v2))] dX7_isWord_56 3 rfl rfl (Nat.le_of_ble_eq_true rfl) rfl ?_
      refine g_goto (pc := 59) (tgt := 28) C dX7_isWord_59 (by decide) ?_
      refine g_weak (lv1 := [(0, .ref (ad X 7)), (1, .ref (ad X 5)), (2, .ref (bK (Xb X) v2)), (3, .int (v3 + 1))]) [1, 2, 3, 0] rfl ?_
      exact hrec28 (v3 + 1, S9) _ h
    · refine g_iconst (pc := 54) (v := 0) C dX7_isWord_54 (by decide) ?_
      exact g_zretc (pc := 55) C rfl h dX7_isWord_55
set_option maxRecDepth 100000 in
set_option maxHeartbeats 4000000 in
theorem s_X7_isWord_l28 {X : MC} (C : Cx X cX7_isWord RX7 wsX7_isWord 4 rmX7_isWord (some .boolean)) (v2 : Nat) : ∀ (n : Nat) (s : Int32 × St) (r : Int32 × St), f_X7_isWord_l28 v2 n s = some r → G X (QM mkI X r) s.2 28 [(0, .ref (ad X 7)), (1, .ref (ad X 5)), (2, .ref (bK (Xb X) v2)), (3, .int (s.1))] [] :=
  loop_sound (fun rec28 hrec28 s r h => s_X7_isWord_b28 C v2 s.1 hrec28 s.2 h)
set_option maxRecDepth 100000 in
set_option maxHeartbeats 4000000 in
theorem s_X7_isWord_b0 {X : MC} (C : Cx X cX7_isWord RX7 wsX7_isWord 4 rmX7_isWord (some .boolean)) (a2 : Nat) (S : St) {r0 : Int32 × St} (h : f_X7_isWord_b0 a2 S = some r0) : G X (QM mkI X r0) S 0 [(0, .ref (ad X 7)), (1, .ref (ad X 5)), (2, .ref (bK (Xb X) a2))] [] := by
  unfold f_X7_isWord_b0 at h
  refine g_aload_n (pc := 0) C dX7_isWord_0 rfl 0 rfl ?_
  refine g_get (pc := 1) C 7 (w_7 _ _) rfl 2 (Nat.le_of_ble_eq_true rfl) in_X7_X7_isWord k24_X7_isWord rfl dX7_isWord_1 ?_
  refine g_iconst (pc := 4) (v := 2) C dX7_isWord_4 (by decide) ?_
  refine g_icmp_ne (pc := 5) (tgt := 24) C h dX7_isWord_5 (by decide) (fun h => ?_) (fun h => ?_)
  · refine g_weak (lv1 := []) [] rfl ?_
    exact s_X7_isWord_b24 C   S h
  · refine g_aload_n (pc := 8) C dX7_isWord_8 rfl 0 rfl ?_
    refine g_get (pc := 9) C 7 (w_7 _ _) rfl 1 (Nat.le_of_ble_eq_true rfl) in_X7_X7_isWord k14_X7_isWord rfl dX7_isWord_9 ?_
    refine g_aload_n (pc := 12) C dX7_isWord_12 rfl 0 rfl ?_
    refine g_get (pc := 13) C 7 (w_7 _ _) rfl 0 (Nat.le_of_ble_eq_true rfl) in_X7_X7_isWord k31_X7_isWord rfl dX7_isWord_13 ?_
    refine g_isub (pc := 16) C dX7_isWord_16 ?_
    refine g_aload_n (pc := 17) C dX7_isWord_17 rfl 2 rfl ?_
    obtain ⟨hs3, h⟩ := chk_some h
    refine g_callT (pc := 18) C a2 (of_decide_eq_true hs3) (c_J0_length_8abf5 (Xl X) (Xb X) a2 S) gX7_isWord_J0_length_8abf5 rfl rfl rfl hd_J0_length_8abf5 ⟨Nat.le_of_ble_eq_true rfl, Nat.le_of_ble_eq_true rfl⟩ rfl rfl (Nat.le_of_ble_eq_true rfl) dX7_isWord_18 h (fun r2 S1 h => ?_)
    change G X _ S1 21 [(0, .ref (ad X 7)), (1, .ref (ad X 5)), (2, .ref (bK (Xb X) a2))] [.int r2, .int ((gI S 9) - (gI S 8))]
    refine g_icmp_eq (pc := 21) (tgt := 26) C h dX7_isWord_21 (by decide) (fun h => ?_) (fun h => ?_)
    · refine g_iconst (pc := 26) (v := 0) C dX7_isWord_26 (by decide) ?_
      refine g_istore_n (pc := 27) C [(3, .int 0), (0, .ref (ad X 7)), (1, .ref (ad X 5)), (2, .ref (bK (Xb X) a2))] dX7_isWord_27 rfl (Nat.le_of_ble_eq_true rfl) rfl ?_
      refine g_weak (lv1 := [(0, .ref (ad X 7)), (1, .ref (ad X 5)), (2, .ref (bK (Xb X) a2)), (3, .int 0)]) [1, 2, 3, 0] rfl ?_
      exact s_X7_isWord_l28 C a2 _ (0, S1) _ h
    · refine g_weak (lv1 := []) [] rfl ?_
      exact s_X7_isWord_b24 C   S1 h
theorem c_X7_isWord (l : Launch) (b : Bw) (a2 : Nat) (S : St) : Ct l b yX7_isWord wsX7_isWord rmX7_isWord [.ref (bad b 7), .ref (bad b 5), .ref (bK b a2)] S mkI (f_X7_isWord a2 S) := Ct.of (by decide +kernel) rfl (Nat.le_of_ble_eq_true rfl) (fun X C hl hb r h => by
  subst hl; subst hb
  exact s_X7_isWord_b0 C a2 S h)
/-! StyleRows$Names.wordOf(I)Ljava/lang/String; -/
set_option maxRecDepth 100000 in
set_option maxHeartbeats 4000000 in
theorem s_X3_wordOf_b0 {X : MC} (C : Cx X cX3_wordOf RX3 wsX3_wordOf 1 rmX3_wordOf (some (.object "java/lang/String"))) (a1 : Int32) (S : St) {r0 : Nat × St} (h : f_X3_wordOf_b0 a1 S = some r0) : G X (QM (mkS (Xb X)) X r0) S 0 [(0, .int a1)] [] := by
  unfold f_X3_wordOf_b0 at h
  refine g_iload_n (pc := 0) C dX3_wordOf_0 rfl 0 rfl ?_
  by_cases hq1 : a1 = 0
  · replace h := ite_t h hq1
    refine g_swIn (pc := 1) (tgt := 68) C 0 hq1 dX3_wordOf_1 (by decide) (by decide) rfl (by decide) ?_
    refine g_ldcS (pc := 68) C sr_X3_15 dX3_wordOf_68 ?_
    exact g_sret (pc := 70) C h dX3_wordOf_70
  replace h := ite_f h hq1
  by_cases hq2 : a1 = 1
  · replace h := ite_t h hq2
    refine g_swIn (pc := 1) (tgt := 71) C 1 hq2 dX3_wordOf_1 (by decide) (by decide) rfl (by decide) ?_
    refine g_ldcS (pc := 71) C sr_X3_17 dX3_wordOf_71 ?_
    exact g_sret (pc := 73) C h dX3_wordOf_73
  replace h := ite_f h hq2
  by_cases hq3 : a1 = 2
  · replace h := ite_t h hq3
    refine g_swIn (pc := 1) (tgt := 74) C 2 hq3 dX3_wordOf_1 (by decide) (by decide) rfl (by decide) ?_
    refine g_ldcS (pc := 74) C sr_X3_19 dX3_wordOf_74 ?_
    exact g_sret (pc := 76) C h dX3_wordOf_76
  replace h := ite_f h hq3
  by_cases hq4 : a1 = 3
  · replace h := ite_t h hq4
    refine g_swIn (pc := 1) (tgt := 77) C 3 hq4 dX3_wordOf_1 (by decide) (by decide) rfl (by decide) ?_
    refine g_ldcS (pc := 77) C sr_X3_21 dX3_wordOf_77 ?_
    exact g_sret (pc := 79) C h dX3_wordOf_79
  replace h := ite_f h hq4
  by_cases hq5 : a1 = 4
  · replace h := ite_t h hq5
    refine g_swIn (pc := 1) (tgt := 80) C 4 hq5 dX3_wordOf_1 (by decide) (by decide) rfl (by decide) ?_
    refine g_ldcS (pc := 80) C sr_X3_23 dX3_wordOf_80 ?_
    exact g_sret (pc := 82) C h dX3_wordOf_82
  replace h := ite_f h hq5
  by_cases hq6 : a1 = 5
  · replace h := ite_t h hq6
    refine g_swIn (pc := 1) (tgt := 83) C 5 hq6 dX3_wordOf_1 (by decide) (by decide) rfl (by decide) ?_
    refine g_ldcS (pc := 83) C sr_X3_25 dX3_wordOf_83 ?_
    exact g_sret (pc := 85) C h dX3_wordOf_85
  replace h := ite_f h hq6
  by_cases hq7 : a1 = 6
  · replace h := ite_t h hq7
    refine g_swIn (pc := 1) (tgt := 86) C 6 hq7 dX3_wordOf_1 (by decide) (by decide) rfl (by decide) ?_
    refine g_ldcS (pc := 86) C sr_X3_27 dX3_wordOf_86 ?_
    exact g_sret (pc := 88) C h dX3_wordOf_88
  replace h := ite_f h hq7
  by_cases hq8 : a1 = 7
  · replace h := ite_t h hq8
    refine g_swIn (pc := 1) (tgt := 89) C 7 hq8 dX3_wordOf_1 (by decide) (by decide) rfl (by decide) ?_
    refine g_ldcS (pc := 89) C sr_X3_29 dX3_wordOf_89 ?_
    exact g_sret (pc := 91) C h dX3_wordOf_91
  replace h := ite_f h hq8
  by_cases hq9 : a1 = 8
  · replace h := ite_t h hq9
    refine g_swIn (pc := 1) (tgt := 92) C 8 hq9 dX3_wordOf_1 (by decide) (by decide) rfl (by decide) ?_
    refine g_ldcS (pc := 92) C sr_X3_31 dX3_wordOf_92 ?_
    exact g_sret (pc := 94) C h dX3_wordOf_94
  replace h := ite_f h hq9
  by_cases hq10 : a1 = 9
  · replace h := ite_t h hq10
    refine g_swIn (pc := 1) (tgt := 95) C 9 hq10 dX3_wordOf_1 (by decide) (by decide) rfl (by decide) ?_
    refine g_ldcS (pc := 95) C sr_X3_33 dX3_wordOf_95 ?_
    exact g_sret (pc := 97) C h dX3_wordOf_97
  replace h := ite_f h hq10
  by_cases hq11 : a1 = 10
  · replace h := ite_t h hq11
    refine g_swIn (pc := 1) (tgt := 98) C 10 hq11 dX3_wordOf_1 (by decide) (by decide) rfl (by decide) ?_
    refine g_ldcS (pc := 98) C sr_X3_35 dX3_wordOf_98 ?_
    exact g_sret (pc := 100) C h dX3_wordOf_100
  replace h := ite_f h hq11
  by_cases hq12 : a1 = 11
  · replace h := ite_t h hq12
    refine g_swIn (pc := 1) (tgt := 101) C 11 hq12 dX3_wordOf_1 (by decide) (by decide) rfl (by decide) ?_
    refine g_ldcS (pc := 101) C sr_X3_37 dX3_wordOf_101 ?_
    exact g_sret (pc := 103) C h dX3_wordOf_103
  replace h := ite_f h hq12
  by_cases hq13 : a1 = 12
  · replace h := ite_t h hq13
    refine g_swIn (pc := 1) (tgt := 104) C 12 hq13 dX3_wordOf_1 (by decide) (by decide) rfl (by decide) ?_
    refine g_ldcS (pc := 104) C sr_X3_39 dX3_wordOf_104 ?_
    exact g_sret (pc := 106) C h dX3_wordOf_106
  replace h := ite_f h hq13
  refine g_swOut (pc := 1) (tgt := 107) C (sw_out_12 hq1 hq2 hq3 hq4 hq5 hq6 hq7 hq8 hq9 hq10 hq11 hq12 hq13) dX3_wordOf_1 (by decide) ?_
  refine g_ldcS (pc := 107) C sr_X3_41 dX3_wordOf_107 ?_
  exact g_sret (pc := 109) C h dX3_wordOf_109
theorem c_X3_wordOf (l : Launch) (b : Bw) (a1 : Int32) (S : St) : Ct l b yX3_wordOf wsX3_wordOf rmX3_wordOf [.int a1] S (mkS b) (f_X3_wordOf a1 S) := Ct.of (by decide +kernel) rfl (Nat.le_of_ble_eq_true rfl) (fun X C hl hb r h => by
  subst hl; subst hb
  exact s_X3_wordOf_b0 C a1 S h)
/-! StyleRows$Reader.nameThere(LStyleRows$Tape;)I -/
set_option maxRecDepth 100000 in
set_option maxHeartbeats 4000000 in
theorem s_X7_nameThere_b2 {X : MC} (C : Cx X cX7_nameThere RX7 wsX7_nameThere 3 rmX7_nameThere (some .int)) {rec2 : Int32 × St → Option (Int32 × St)} (v2 : Int32) (hrec2 : ∀ (s : Int32 × St) (r : Int32 × St), rec2 s = some r → G X (QM mkI X r) s.2 2 [(0, .ref (ad X 7)), (1, .ref (ad X 5)), (2, .int (s.1))] []) (S : St) {r0 : Int32 × St} (h : f_X7_nameThere_b2 rec2 v2 S = some r0) : G X (QM mkI X r0) S 2 [(0, .ref (ad X 7)), (1, .ref (ad X 5)), (2, .int v2)] [] := by
  unfold f_X7_nameThere_b2 at h
  refine g_iload_n (pc := 2) C dX7_nameThere_2 rfl 2 rfl ?_
  refine g_bipush (pc := 3) (v := 13) C dX7_nameThere_3 (by decide) ?_
  refine g_icmp_ge (pc := 5) (tgt := 28) C h dX7_nameThere_5 (by decide) (fun h => ?_) (fun h => ?_)
  · refine g_iconst (pc := 28) (v := (-1)) C dX7_nameThere_28 (by decide) ?_
    exact g_iret (pc := 29) C h dX7_nameThere_29
  · refine g_aload_n (pc := 8) C dX7_nameThere_8 rfl 0 rfl ?_
    refine g_aload_n (pc := 9) C dX7_nameThere_9 rfl 1 rfl ?_
    refine g_iload_n (pc := 10) C dX7_nameThere_10 rfl 2 rfl ?_
    refine g_callS (pc := 11) C (c_X3_wordOf (Xl X) (Xb X) v2 S) gX7_nameThere_X3_wordOf rfl rfl rfl hd_X3_wordOf ⟨Nat.le_of_ble_eq_true rfl, Nat.le_of_ble_eq_true rfl⟩ rfl rfl (Nat.le_of_ble_eq_true rfl) dX7_nameThere_11 h (fun r2 S1 h => ?_)
    change G X _ S1 14 [(0, .ref (ad X 7)), (1, .ref (ad X 5)), (2, .int v2)] [.ref (bK (Xb X) r2), .ref (ad X 5), .ref (ad X 7)]
    refine g_callV (pc := 14) C 7 (c_X7_isWord (Xl X) (Xb X) r2 S1) gX7_nameThere_X7_isWord rfl rfl rfl hd_X7_isWord ⟨Nat.le_of_ble_eq_true rfl, Nat.le_of_ble_eq_true rfl⟩ (w_7 _ _) rfl rfl rfl (Nat.le_of_ble_eq_true rfl) dX7_nameThere_14 h (fun r4 S3 h => ?_)
    change G X _ S3 17 [(0, .ref (ad X 7)), (1, .ref (ad X 5)), (2, .int v2)] [.int r4]
    refine g_if_eq (pc := 17) (tgt := 22) C h dX7_nameThere_17 (by decide) (fun h => ?_) (fun h => ?_)
    · refine g_iinc (pc := 22) (v := v2 + 1) C [(2, .int (v2 + 1)), (0, .ref (ad X 7)), (1, .ref (ad X 5))] dX7_nameThere_22 2 rfl rfl (Nat.le_of_ble_eq_true rfl) rfl ?_
      refine g_goto (pc := 25) (tgt := 2) C dX7_nameThere_25 (by decide) ?_
      refine g_weak (lv1 := [(0, .ref (ad X 7)), (1, .ref (ad X 5)), (2, .int (v2 + 1))]) [1, 2, 0] rfl ?_
      exact hrec2 (v2 + 1, S3) _ h
    · refine g_iload_n (pc := 20) C dX7_nameThere_20 rfl 2 rfl ?_
      exact g_iret (pc := 21) C h dX7_nameThere_21
set_option maxRecDepth 100000 in
set_option maxHeartbeats 4000000 in
theorem s_X7_nameThere_l2 {X : MC} (C : Cx X cX7_nameThere RX7 wsX7_nameThere 3 rmX7_nameThere (some .int)) : ∀ (n : Nat) (s : Int32 × St) (r : Int32 × St), f_X7_nameThere_l2 n s = some r → G X (QM mkI X r) s.2 2 [(0, .ref (ad X 7)), (1, .ref (ad X 5)), (2, .int (s.1))] [] :=
  loop_sound (fun rec2 hrec2 s r h => s_X7_nameThere_b2 C s.1 hrec2 s.2 h)
set_option maxRecDepth 100000 in
set_option maxHeartbeats 4000000 in
theorem s_X7_nameThere_b0 {X : MC} (C : Cx X cX7_nameThere RX7 wsX7_nameThere 3 rmX7_nameThere (some .int)) (S : St) {r0 : Int32 × St} (h : f_X7_nameThere_b0 S = some r0) : G X (QM mkI X r0) S 0 [(0, .ref (ad X 7)), (1, .ref (ad X 5))] [] := by
  unfold f_X7_nameThere_b0 at h
  refine g_iconst (pc := 0) (v := 0) C dX7_nameThere_0 (by decide) ?_
  refine g_istore_n (pc := 1) C [(2, .int 0), (0, .ref (ad X 7)), (1, .ref (ad X 5))] dX7_nameThere_1 rfl (Nat.le_of_ble_eq_true rfl) rfl ?_
  refine g_weak (lv1 := [(0, .ref (ad X 7)), (1, .ref (ad X 5)), (2, .int 0)]) [1, 2, 0] rfl ?_
  exact s_X7_nameThere_l2 C  _ (0, S) _ h
theorem c_X7_nameThere (l : Launch) (b : Bw) (S : St) : Ct l b yX7_nameThere wsX7_nameThere rmX7_nameThere [.ref (bad b 7), .ref (bad b 5)] S mkI (f_X7_nameThere S) := Ct.of (by decide +kernel) rfl (Nat.le_of_ble_eq_true rfl) (fun X C hl hb r h => by
  subst hl; subst hb
  exact s_X7_nameThere_b0 C S h)
/-! StyleRows$Reader.takeNumber(LStyleRows$Tape;II)Z -/
set_option maxRecDepth 100000 in
set_option maxHeartbeats 4000000 in
theorem s_X7_takeNumber_b21 {X : MC} (C : Cx X cX7_takeNumber RX7 wsX7_takeNumber 5 rmX7_takeNumber (some .boolean)) {rec21 : Int32 × St → Option (Int32 × St)} (v2 : Int32) (v3 : Int32) (v4 : Int32) (hrec21 : ∀ (s : Int32 × St) (r : Int32 × St), rec21 s = some r → G X (QM mkI X r) s.2 21 [(0, .ref (ad X 7)), (1, .ref (ad X 5)), (2, .int v2), (3, .int v3), (4, .int (s.1))] []) (S : St) {r0 : Int32 × St} (h : f_X7_takeNumber_b21 rec21 v2 v3 v4 S = some r0) : G X (QM mkI X r0) S 21 [(0, .ref (ad X 7)), (1, .ref (ad X 5)), (2, .int v2), (3, .int v3), (4, .int v4)] [] := by
  unfold f_X7_takeNumber_b21 at h
  refine g_iload (pc := 21) C dX7_takeNumber_21 4 rfl ?_
  refine g_aload_n (pc := 23) C dX7_takeNumber_23 rfl 0 rfl ?_
  refine g_get (pc := 24) C 7 (w_7 _ _) rfl 1 (Nat.le_of_ble_eq_true rfl) in_X7_X7_takeNumber k14_X7_takeNumber rfl dX7_takeNumber_24 ?_
  refine g_icmp_ge (pc := 27) (tgt := 62) C h dX7_takeNumber_27 (by decide) (fun h => ?_) (fun h => ?_)
  · refine g_aload_n (pc := 62) C dX7_takeNumber_62 rfl 0 rfl ?_
    refine g_get (pc := 63) C 7 (w_7 _ _) rfl 3 (Nat.le_of_ble_eq_true rfl) in_X7_X7_takeNumber k48_X7_takeNumber rfl dX7_takeNumber_63 ?_
    refine g_iload_n (pc := 66) C dX7_takeNumber_66 rfl 2 rfl ?_
    refine g_iload_n (pc := 67) C dX7_takeNumber_67 rfl 3 rfl ?_
    refine g_callSN (pc := 68) C (c_X11_isWithin (Xl X) (Xb X) (gI S 11) v2 v3 S) gX7_takeNumber_X11_isWithin_n83 rfl rfl rfl nw_X7_83 kiniX11_X7_takeNumber kstX11_isWithin_X7_takeNumber hd_X11_isWithin ⟨Nat.le_of_ble_eq_true rfl, Nat.le_of_ble_eq_true rfl⟩ rfl rfl (Nat.le_of_ble_eq_true rfl) dX7_takeNumber_68 h (fun r4 S3 h => ?_)
    change G X _ S3 71 [(0, .ref (ad X 7)), (1, .ref (ad X 5)), (2, .int v2), (3, .int v3), (4, .int v4)] [.int r4]
    refine g_if_ne (pc := 71) (tgt := 76) C h dX7_takeNumber_71 (by decide) (fun h => ?_) (fun h => ?_)
    · refine g_aload_n (pc := 76) C dX7_takeNumber_76 rfl 0 rfl ?_
      refine g_aload_n (pc := 77) C dX7_takeNumber_77 rfl 1 rfl ?_
      refine g_callV (pc := 78) C 7 (c_X7_takePiece (Xl X) (Xb X) S3) gX7_takeNumber_X7_takePiece rfl rfl rfl hd_X7_takePiece ⟨Nat.le_of_ble_eq_true rfl, Nat.le_of_ble_eq_true rfl⟩ (w_7 _ _) rfl rfl rfl (Nat.le_of_ble_eq_true rfl) dX7_takeNumber_78 h (fun _u5 S5 h => ?_)
      change G X _ S5 81 [(0, .ref (ad X 7)), (1, .ref (ad X 5)), (2, .int v2), (3, .int v3), (4, .int v4)] []
      refine g_iconst (pc := 81) (v := 1) C dX7_takeNumber_81 (by decide) ?_
      exact g_zretc (pc := 82) C rfl h dX7_takeNumber_82
    · refine g_iconst (pc := 74) (v := 0) C dX7_takeNumber_74 (by decide) ?_
      exact g_zretc (pc := 75) C rfl h dX7_takeNumber_75
  · refine g_aload_n (pc := 30) C dX7_takeNumber_30 rfl 0 rfl ?_
    refine g_ldc (pc := 31) (v := 1000000) C k76_X7_takeNumber dX7_takeNumber_31 ?_
    refine g_aload_n (pc := 33) C dX7_takeNumber_33 rfl 0 rfl ?_
    refine g_get (pc := 34) C 7 (w_7 _ _) rfl 3 (Nat.le_of_ble_eq_true rfl) in_X7_X7_takeNumber k48_X7_takeNumber rfl dX7_takeNumber_34 ?_
    refine g_bipush (pc := 37) (v := 10) C dX7_takeNumber_37 (by decide) ?_
    refine g_imul (pc := 39) C dX7_takeNumber_39 ?_
    refine g_aload_n (pc := 40) C dX7_takeNumber_40 rfl 1 rfl ?_
    refine g_iload (pc := 41) C dX7_takeNumber_41 4 rfl ?_
    refine g_callV (pc := 43) C 5 (c_X10_at (Xl X) (Xb X) v4 S) gX7_takeNumber_X10_at rfl rfl rfl hd_X10_at ⟨Nat.le_of_ble_eq_true rfl, Nat.le_of_ble_eq_true rfl⟩ (w_5 _ _) rfl rfl rfl (Nat.le_of_ble_eq_true rfl) dX7_takeNumber_43 h (fun r7 S6 h => ?_)
    change G X _ S6 46 [(0, .ref (ad X 7)), (1, .ref (ad X 5)), (2, .int v2), (3, .int v3), (4, .int v4)] [.int r7, .int ((gI S 11) * 10), .int 1000000, .ref (ad X 7)]
    refine g_iadd (pc := 46) C dX7_takeNumber_46 ?_
    refine g_bipush (pc := 47) (v := 48) C dX7_takeNumber_47 (by decide) ?_
    refine g_isub (pc := 49) C dX7_takeNumber_49 ?_
    refine g_mmin (pc := 50) C k77_X7_takeNumber kstmin_X7_takeNumber kini_X7_takeNumber kcomin_X7_takeNumber (Nat.le_of_ble_eq_true rfl) (Nat.le_of_ble_eq_true rfl) dX7_takeNumber_50 ?_
    refine g_put (pc := 53) C 7 (w_7 _ _) rfl 3 (Nat.le_of_ble_eq_true rfl) in_X7_X7_takeNumber tyX7_ok nmX7 k48_X7_takeNumber rfl rfl rfl (Nat.le_of_ble_eq_true rfl) (ws_7_3 _ _ _) dX7_takeNumber_53 h (fun S8 h => ?_)
    refine g_iinc (pc := 56) (v := v4 + 1) C [(4, .int (v4 + 1)), (0, .ref (ad X 7)), (1, .ref (ad X 5)), (2, .int v2), (3, .int v3)] dX7_takeNumber_56 4 rfl rfl (Nat.le_of_ble_eq_true rfl) rfl ?_
    refine g_goto (pc := 59) (tgt := 21) C dX7_takeNumber_59 (by decide) ?_
    refine g_weak (lv1 := [(0, .ref (ad X 7)), (1, .ref (ad X 5)), (2, .int v2), (3, .int v3), (4, .int (v4 + 1))]) [1, 2, 3, 4, 0] rfl ?_
    exact hrec21 (v4 + 1, S8) _ h
set_option maxRecDepth 100000 in
set_option maxHeartbeats 4000000 in
theorem s_X7_takeNumber_l21 {X : MC} (C : Cx X cX7_takeNumber RX7 wsX7_takeNumber 5 rmX7_takeNumber (some .boolean)) (v2 : Int32) (v3 : Int32) : ∀ (n : Nat) (s : Int32 × St) (r : Int32 × St), f_X7_takeNumber_l21 v2 v3 n s = some r → G X (QM mkI X r) s.2 21 [(0, .ref (ad X 7)), (1, .ref (ad X 5)), (2, .int v2), (3, .int v3), (4, .int (s.1))] [] :=
  loop_sound (fun rec21 hrec21 s r h => s_X7_takeNumber_b21 C v2 v3 s.1 hrec21 s.2 h)
set_option maxRecDepth 100000 in
set_option maxHeartbeats 4000000 in
theorem s_X7_takeNumber_b0 {X : MC} (C : Cx X cX7_takeNumber RX7 wsX7_takeNumber 5 rmX7_takeNumber (some .boolean)) (a2 : Int32) (a3 : Int32) (S : St) {r0 : Int32 × St} (h : f_X7_takeNumber_b0 a2 a3 S = some r0) : G X (QM mkI X r0) S 0 [(0, .ref (ad X 7)), (1, .ref (ad X 5)), (2, .int a2), (3, .int a3)] [] := by
  unfold f_X7_takeNumber_b0 at h
  refine g_aload_n (pc := 0) C dX7_takeNumber_0 rfl 0 rfl ?_
  refine g_get (pc := 1) C 7 (w_7 _ _) rfl 2 (Nat.le_of_ble_eq_true rfl) in_X7_X7_takeNumber k24_X7_takeNumber rfl dX7_takeNumber_1 ?_
  refine g_iconst (pc := 4) (v := 3) C dX7_takeNumber_4 (by decide) ?_
  refine g_icmp_eq (pc := 5) (tgt := 10) C h dX7_takeNumber_5 (by decide) (fun h => ?_) (fun h => ?_)
  · refine g_aload_n (pc := 10) C dX7_takeNumber_10 rfl 0 rfl ?_
    refine g_iconst (pc := 11) (v := 0) C dX7_takeNumber_11 (by decide) ?_
    refine g_put (pc := 12) C 7 (w_7 _ _) rfl 3 (Nat.le_of_ble_eq_true rfl) in_X7_X7_takeNumber tyX7_ok nmX7 k48_X7_takeNumber rfl rfl rfl (Nat.le_of_ble_eq_true rfl) (ws_7_3 _ _ _) dX7_takeNumber_12 h (fun S1 h => ?_)
    refine g_aload_n (pc := 15) C dX7_takeNumber_15 rfl 0 rfl ?_
    refine g_get (pc := 16) C 7 (w_7 _ _) rfl 0 (Nat.le_of_ble_eq_true rfl) in_X7_X7_takeNumber k31_X7_takeNumber rfl dX7_takeNumber_16 ?_
    refine g_leti h (fun x2 h => ?_)
    refine g_istore (pc := 19) C [(4, .int x2), (0, .ref (ad X 7)), (1, .ref (ad X 5)), (2, .int a2), (3, .int a3)] dX7_takeNumber_19 (Nat.le_of_ble_eq_true rfl) rfl ?_
    refine g_weak (lv1 := [(0, .ref (ad X 7)), (1, .ref (ad X 5)), (2, .int a2), (3, .int a3), (4, .int x2)]) [1, 2, 3, 4, 0] rfl ?_
    exact s_X7_takeNumber_l21 C a2 a3 _ (x2, S1) _ h
  · refine g_iconst (pc := 8) (v := 0) C dX7_takeNumber_8 (by decide) ?_
    exact g_zretc (pc := 9) C rfl h dX7_takeNumber_9
theorem c_X7_takeNumber (l : Launch) (b : Bw) (a2 : Int32) (a3 : Int32) (S : St) : Ct l b yX7_takeNumber wsX7_takeNumber rmX7_takeNumber [.ref (bad b 7), .ref (bad b 5), .int a2, .int a3] S mkI (f_X7_takeNumber a2 a3 S) := Ct.of (by decide +kernel) rfl (Nat.le_of_ble_eq_true rfl) (fun X C hl hb r h => by
  subst hl; subst hb
  exact s_X7_takeNumber_b0 C a2 a3 S h)
/-! StyleRows$Rules.stage(IIII)V -/
set_option maxRecDepth 100000 in
set_option maxHeartbeats 4000000 in
theorem s_X8_stage_b0 {X : MC} (C : Cx X cX8_stage RX8 wsX8_stage 5 rmX8_stage none) (a1 : Int32) (a2 : Int32) (a3 : Int32) (a4 : Int32) (S : St) {r0 : Unit × St} (h : f_X8_stage_b0 a1 a2 a3 a4 S = some r0) : G X (QM mkV X r0) S 0 [(0, .ref (ad X 6)), (1, .int a1), (2, .int a2), (3, .int a3), (4, .int a4)] [] := by
  unfold f_X8_stage_b0 at h
  refine g_aload_n (pc := 0) C dX8_stage_0 rfl 0 rfl ?_
  refine g_callV (pc := 1) C 6 (c_X8_areFull (Xl X) (Xb X) S) gX8_stage_X8_areFull rfl rfl rfl hd_X8_areFull ⟨Nat.le_of_ble_eq_true rfl, Nat.le_of_ble_eq_true rfl⟩ (w_6 _ _) rfl rfl rfl (Nat.le_of_ble_eq_true rfl) dX8_stage_1 h (fun r2 S1 h => ?_)
  change G X _ S1 4 [(0, .ref (ad X 6)), (1, .int a1), (2, .int a2), (3, .int a3), (4, .int a4)] [.int r2]
  refine g_if_eq (pc := 4) (tgt := 8) C h dX8_stage_4 (by decide) (fun h => ?_) (fun h => ?_)
  · refine g_aload_n (pc := 8) C dX8_stage_8 rfl 0 rfl ?_
    refine g_get (pc := 9) C 6 (w_6 _ _) rfl 0 (Nat.le_of_ble_eq_true rfl) in_X8_X8_stage k13_X8_stage rfl dX8_stage_9 ?_
    refine g_iconst (pc := 12) (v := 0) C dX8_stage_12 (by decide) ?_
    refine g_aaldc (pc := 13) (i := 0) C 25 26 (w_25 _ _) rfl rfl dX8_stage_13 ?_
    refine g_aload_n (pc := 14) C dX8_stage_14 rfl 0 rfl ?_
    refine g_get (pc := 15) C 6 (w_6 _ _) rfl 3 (Nat.le_of_ble_eq_true rfl) in_X8_X8_stage k30_X8_stage rfl dX8_stage_15 ?_
    refine g_iload_n (pc := 18) C dX8_stage_18 rfl 1 rfl ?_
    refine g_iast (pc := 19) C 26 (w_26 _ _) (ws_26 _ _) h dX8_stage_19 (fun S3 h => ?_)
    refine g_aload_n (pc := 20) C dX8_stage_20 rfl 0 rfl ?_
    refine g_get (pc := 21) C 6 (w_6 _ _) rfl 0 (Nat.le_of_ble_eq_true rfl) in_X8_X8_stage k13_X8_stage rfl dX8_stage_21 ?_
    refine g_iconst (pc := 24) (v := 1) C dX8_stage_24 (by decide) ?_
    refine g_aaldc (pc := 25) (i := 1) C 25 27 (w_25 _ _) rfl rfl dX8_stage_25 ?_
    refine g_aload_n (pc := 26) C dX8_stage_26 rfl 0 rfl ?_
    refine g_get (pc := 27) C 6 (w_6 _ _) rfl 3 (Nat.le_of_ble_eq_true rfl) in_X8_X8_stage k30_X8_stage rfl dX8_stage_27 ?_
    refine g_iload_n (pc := 30) C dX8_stage_30 rfl 2 rfl ?_
    refine g_iast (pc := 31) C 27 (w_27 _ _) (ws_27 _ _) h dX8_stage_31 (fun S4 h => ?_)
    refine g_aload_n (pc := 32) C dX8_stage_32 rfl 0 rfl ?_
    refine g_get (pc := 33) C 6 (w_6 _ _) rfl 0 (Nat.le_of_ble_eq_true rfl) in_X8_X8_stage k13_X8_stage rfl dX8_stage_33 ?_
    refine g_iconst (pc := 36) (v := 2) C dX8_stage_36 (by decide) ?_
    refine g_aaldc (pc := 37) (i := 2) C 25 28 (w_25 _ _) rfl rfl dX8_stage_37 ?_
    refine g_aload_n (pc := 38) C dX8_stage_38 rfl 0 rfl ?_
    refine g_get (pc := 39) C 6 (w_6 _ _) rfl 3 (Nat.le_of_ble_eq_true rfl) in_X8_X8_stage k30_X8_stage rfl dX8_stage_39 ?_
    refine g_iload_n (pc := 42) C dX8_stage_42 rfl 3 rfl ?_
    refine g_iast (pc := 43) C 28 (w_28 _ _) (ws_28 _ _) h dX8_stage_43 (fun S5 h => ?_)
    refine g_aload_n (pc := 44) C dX8_stage_44 rfl 0 rfl ?_
    refine g_get (pc := 45) C 6 (w_6 _ _) rfl 0 (Nat.le_of_ble_eq_true rfl) in_X8_X8_stage k13_X8_stage rfl dX8_stage_45 ?_
    refine g_iconst (pc := 48) (v := 3) C dX8_stage_48 (by decide) ?_
    refine g_aaldc (pc := 49) (i := 3) C 25 29 (w_25 _ _) rfl rfl dX8_stage_49 ?_
    refine g_aload_n (pc := 50) C dX8_stage_50 rfl 0 rfl ?_
    refine g_get (pc := 51) C 6 (w_6 _ _) rfl 3 (Nat.le_of_ble_eq_true rfl) in_X8_X8_stage k30_X8_stage rfl dX8_stage_51 ?_
    refine g_iload (pc := 54) C dX8_stage_54 4 rfl ?_
    refine g_iast (pc := 56) C 29 (w_29 _ _) (ws_29 _ _) h dX8_stage_56 (fun S6 h => ?_)
    refine g_aload_n (pc := 57) C dX8_stage_57 rfl 0 rfl ?_
    refine g_dup (pc := 58) C dX8_stage_58 rfl ?_
    refine g_get (pc := 59) C 6 (w_6 _ _) rfl 3 (Nat.le_of_ble_eq_true rfl) in_X8_X8_stage k30_X8_stage rfl dX8_stage_59 ?_
    refine g_iconst (pc := 62) (v := 1) C dX8_stage_62 (by decide) ?_
    refine g_iadd (pc := 63) C dX8_stage_63 ?_
    refine g_put (pc := 64) C 6 (w_6 _ _) rfl 3 (Nat.le_of_ble_eq_true rfl) in_X8_X8_stage tyX8_ok nmX8 k30_X8_stage rfl rfl rfl (Nat.le_of_ble_eq_true rfl) (ws_6_3 _ _ _) dX8_stage_64 h (fun S7 h => ?_)
    exact g_vret (pc := 67) C h dX8_stage_67
  · exact g_vret (pc := 7) C h dX8_stage_7
theorem c_X8_stage (l : Launch) (b : Bw) (a1 : Int32) (a2 : Int32) (a3 : Int32) (a4 : Int32) (S : St) : Ct l b yX8_stage wsX8_stage rmX8_stage [.ref (bad b 6), .int a1, .int a2, .int a3, .int a4] S mkV (f_X8_stage a1 a2 a3 a4 S) := Ct.of (by decide +kernel) rfl (Nat.le_of_ble_eq_true rfl) (fun X C hl hb r h => by
  subst hl; subst hb
  exact s_X8_stage_b0 C a1 a2 a3 a4 S h)
/-! StyleRows$Reader.takeRule(LStyleRows$Tape;LStyleRows$Rules;)Z -/
set_option maxRecDepth 100000 in
set_option maxHeartbeats 4000000 in
theorem s_X7_takeRule_b128 {X : MC} (C : Cx X cX7_takeRule RX7 wsX7_takeRule 7 rmX7_takeRule (some .boolean)) (v3 : Int32) (v4 : Int32) (v5 : Int32) (v6 : Int32) (S : St) {r0 : Int32 × St} (h : f_X7_takeRule_b128 v3 v4 v5 v6 S = some r0) : G X (QM mkI X r0) S 128 [(0, .ref (ad X 7)), (1, .ref (ad X 5)), (2, .ref (ad X 6)), (3, .int v3), (4, .int v4), (5, .int v5), (6, .int v6)] [] := by
  unfold f_X7_takeRule_b128 at h
  refine g_aload_n (pc := 128) C dX7_takeRule_128 rfl 1 rfl ?_
  refine g_aload_n (pc := 129) C dX7_takeRule_129 rfl 0 rfl ?_
  refine g_get (pc := 130) C 7 (w_7 _ _) rfl 0 (Nat.le_of_ble_eq_true rfl) in_X7_X7_takeRule k31_X7_takeRule rfl dX7_takeRule_130 ?_
  refine g_callV (pc := 133) C 5 (c_X10_at (Xl X) (Xb X) (gI S 8) S) gX7_takeRule_X10_at rfl rfl rfl hd_X10_at ⟨Nat.le_of_ble_eq_true rfl, Nat.le_of_ble_eq_true rfl⟩ (w_5 _ _) rfl rfl rfl (Nat.le_of_ble_eq_true rfl) dX7_takeRule_133 h (fun r14 S13 h => ?_)
  change G X _ S13 136 [(0, .ref (ad X 7)), (1, .ref (ad X 5)), (2, .ref (ad X 6)), (3, .int v3), (4, .int v4), (5, .int v5), (6, .int v6)] [.int r14]
  refine g_bipush (pc := 136) (v := 59) C dX7_takeRule_136 (by decide) ?_
  refine g_icmp_eq (pc := 138) (tgt := 143) C h dX7_takeRule_138 (by decide) (fun h => ?_) (fun h => ?_)
  · refine g_aload_n (pc := 143) C dX7_takeRule_143 rfl 0 rfl ?_
    refine g_aload_n (pc := 144) C dX7_takeRule_144 rfl 1 rfl ?_
    refine g_callV (pc := 145) C 7 (c_X7_takePiece (Xl X) (Xb X) S13) gX7_takeRule_X7_takePiece rfl rfl rfl hd_X7_takePiece ⟨Nat.le_of_ble_eq_true rfl, Nat.le_of_ble_eq_true rfl⟩ (w_7 _ _) rfl rfl rfl (Nat.le_of_ble_eq_true rfl) dX7_takeRule_145 h (fun _u15 S15 h => ?_)
    change G X _ S15 148 [(0, .ref (ad X 7)), (1, .ref (ad X 5)), (2, .ref (ad X 6)), (3, .int v3), (4, .int v4), (5, .int v5), (6, .int v6)] []
    refine g_aload_n (pc := 148) C dX7_takeRule_148 rfl 2 rfl ?_
    refine g_iload_n (pc := 149) C dX7_takeRule_149 rfl 3 rfl ?_
    refine g_iload (pc := 150) C dX7_takeRule_150 5 rfl ?_
    refine g_iload (pc := 152) C dX7_takeRule_152 6 rfl ?_
    refine g_iload (pc := 154) C dX7_takeRule_154 4 rfl ?_
    refine g_callV (pc := 156) C 6 (c_X8_stage (Xl X) (Xb X) v3 v5 v6 v4 S15) gX7_takeRule_X8_stage rfl rfl rfl hd_X8_stage ⟨Nat.le_of_ble_eq_true rfl, Nat.le_of_ble_eq_true rfl⟩ (w_6 _ _) rfl rfl rfl (Nat.le_of_ble_eq_true rfl) dX7_takeRule_156 h (fun _u16 S16 h => ?_)
    change G X _ S16 159 [(0, .ref (ad X 7)), (1, .ref (ad X 5)), (2, .ref (ad X 6)), (3, .int v3), (4, .int v4), (5, .int v5), (6, .int v6)] []
    refine g_iconst (pc := 159) (v := 1) C dX7_takeRule_159 (by decide) ?_
    exact g_zretc (pc := 160) C rfl h dX7_takeRule_160
  · refine g_iconst (pc := 141) (v := 0) C dX7_takeRule_141 (by decide) ?_
    exact g_zretc (pc := 142) C rfl h dX7_takeRule_142
set_option maxRecDepth 100000 in
set_option maxHeartbeats 4000000 in
theorem s_X7_takeRule_b46 {X : MC} (C : Cx X cX7_takeRule RX7 wsX7_takeRule 7 rmX7_takeRule (some .boolean)) (v3 : Int32) (v4 : Int32) (S : St) {r0 : Int32 × St} (h : f_X7_takeRule_b46 v3 v4 S = some r0) : G X (QM mkI X r0) S 46 [(0, .ref (ad X 7)), (1, .ref (ad X 5)), (2, .ref (ad X 6)), (3, .int v3), (4, .int v4)] [] := by
  unfold f_X7_takeRule_b46 at h
  refine g_aload_n (pc := 46) C dX7_takeRule_46 rfl 0 rfl ?_
  refine g_aload_n (pc := 47) C dX7_takeRule_47 rfl 1 rfl ?_
  refine g_callV (pc := 48) C 7 (c_X7_nameThere (Xl X) (Xb X) S) gX7_takeRule_X7_nameThere rfl rfl rfl hd_X7_nameThere ⟨Nat.le_of_ble_eq_true rfl, Nat.le_of_ble_eq_true rfl⟩ (w_7 _ _) rfl rfl rfl (Nat.le_of_ble_eq_true rfl) dX7_takeRule_48 h (fun r6 S5 h => ?_)
  change G X _ S5 51 [(0, .ref (ad X 7)), (1, .ref (ad X 5)), (2, .ref (ad X 6)), (3, .int v3), (4, .int v4)] [.int r6]
  refine g_istore (pc := 51) C [(5, .int r6), (0, .ref (ad X 7)), (1, .ref (ad X 5)), (2, .ref (ad X 6)), (3, .int v3), (4, .int v4)] dX7_takeRule_51 (Nat.le_of_ble_eq_true rfl) rfl ?_
  refine g_iload (pc := 53) C dX7_takeRule_53 0 rfl ?_
  refine g_iconst (pc := 55) (v := (-1)) C dX7_takeRule_55 (by decide) ?_
  refine g_icmp_ne (pc := 56) (tgt := 61) C h dX7_takeRule_56 (by decide) (fun h => ?_) (fun h => ?_)
  · refine g_aload_n (pc := 61) C dX7_takeRule_61 rfl 1 rfl ?_
    refine g_aload_n (pc := 62) C dX7_takeRule_62 rfl 2 rfl ?_
    refine g_callV (pc := 63) C 7 (c_X7_takePiece (Xl X) (Xb X) S5) gX7_takeRule_X7_takePiece rfl rfl rfl hd_X7_takePiece ⟨Nat.le_of_ble_eq_true rfl, Nat.le_of_ble_eq_true rfl⟩ (w_7 _ _) rfl rfl rfl (Nat.le_of_ble_eq_true rfl) dX7_takeRule_63 h (fun _u7 S7 h => ?_)
    change G X _ S7 66 [(5, .int r6), (0, .ref (ad X 7)), (1, .ref (ad X 5)), (2, .ref (ad X 6)), (3, .int v3), (4, .int v4)] []
    refine g_aload_n (pc := 66) C dX7_takeRule_66 rfl 1 rfl ?_
    refine g_aload_n (pc := 67) C dX7_takeRule_67 rfl 2 rfl ?_
    refine g_getsN (pc := 68) C 1 (Nat.le_of_ble_eq_true rfl) nw_X7_55 dX7_takeRule_68 ?_
    refine g_iload (pc := 71) C dX7_takeRule_71 0 rfl ?_
    refine g_tld (pc := 73) C 1 (Nat.le_of_ble_eq_true rfl) h dX7_takeRule_73 (fun h => ?_)
    refine g_getsN (pc := 74) C 2 (Nat.le_of_ble_eq_true rfl) nw_X7_61 dX7_takeRule_74 ?_
    refine g_iload (pc := 77) C dX7_takeRule_77 0 rfl ?_
    refine g_tld (pc := 79) C 2 (Nat.le_of_ble_eq_true rfl) h dX7_takeRule_79 (fun h => ?_)
    refine g_callV (pc := 80) C 7 (c_X7_takeNumber (Xl X) (Xb X) (tbr 1 r6) (tbr 2 r6) S7) gX7_takeRule_X7_takeNumber rfl rfl rfl hd_X7_takeNumber ⟨Nat.le_of_ble_eq_true rfl, Nat.le_of_ble_eq_true rfl⟩ (w_7 _ _) rfl rfl rfl (Nat.le_of_ble_eq_true rfl) dX7_takeRule_80 h (fun r9 S8 h => ?_)
    change G X _ S8 83 [(5, .int r6), (0, .ref (ad X 7)), (1, .ref (ad X 5)), (2, .ref (ad X 6)), (3, .int v3), (4, .int v4)] [.int r9]
    refine g_if_ne (pc := 83) (tgt := 88) C h dX7_takeRule_83 (by decide) (fun h => ?_) (fun h => ?_)
    · refine g_aload_n (pc := 88) C dX7_takeRule_88 rfl 1 rfl ?_
      refine g_get (pc := 89) C 7 (w_7 _ _) rfl 3 (Nat.le_of_ble_eq_true rfl) in_X7_X7_takeRule k48_X7_takeRule rfl dX7_takeRule_89 ?_
      refine g_leti h (fun x10 h => ?_)
      refine g_istore (pc := 92) C [(6, .int x10), (5, .int r6), (0, .ref (ad X 7)), (1, .ref (ad X 5)), (2, .ref (ad X 6)), (3, .int v3), (4, .int v4)] dX7_takeRule_92 (Nat.le_of_ble_eq_true rfl) rfl ?_
      refine g_aload_n (pc := 94) C dX7_takeRule_94 rfl 2 rfl ?_
      refine g_aload_n (pc := 95) C dX7_takeRule_95 rfl 3 rfl ?_
      refine g_ldcS (pc := 96) C sr_X7_64 dX7_takeRule_96 ?_
      refine g_callV (pc := 98) C 7 (c_X7_isWord (Xl X) (Xb X) 15 S8) gX7_takeRule_X7_isWord rfl rfl rfl hd_X7_isWord ⟨Nat.le_of_ble_eq_true rfl, Nat.le_of_ble_eq_true rfl⟩ (w_7 _ _) rfl rfl rfl (Nat.le_of_ble_eq_true rfl) dX7_takeRule_98 h (fun r12 S11 h => ?_)
      change G X _ S11 101 [(6, .int x10), (5, .int r6), (0, .ref (ad X 7)), (1, .ref (ad X 5)), (2, .ref (ad X 6)), (3, .int v3), (4, .int v4)] [.int r12]
      refine g_if_eq (pc := 101) (tgt := 128) C h dX7_takeRule_101 (by decide) (fun h => ?_) (fun h => ?_)
      · refine g_weak (lv1 := [(0, .ref (ad X 7)), (1, .ref (ad X 5)), (2, .ref (ad X 6)), (3, .int v3), (4, .int v4), (5, .int r6), (6, .int x10)]) [2, 3, 4, 5, 6, 1, 0] rfl ?_
        exact s_X7_takeRule_b128 C v3 v4 r6 x10  S11 h
      · refine g_aload_n (pc := 104) C dX7_takeRule_104 rfl 2 rfl ?_
        refine g_aload_n (pc := 105) C dX7_takeRule_105 rfl 3 rfl ?_
        refine g_callV (pc := 106) C 7 (c_X7_takePiece (Xl X) (Xb X) S11) gX7_takeRule_X7_takePiece rfl rfl rfl hd_X7_takePiece ⟨Nat.le_of_ble_eq_true rfl, Nat.le_of_ble_eq_true rfl⟩ (w_7 _ _) rfl rfl rfl (Nat.le_of_ble_eq_true rfl) dX7_takeRule_106 h (fun _u17 S17 h => ?_)
        change G X _ S17 109 [(6, .int x10), (5, .int r6), (0, .ref (ad X 7)), (1, .ref (ad X 5)), (2, .ref (ad X 6)), (3, .int v3), (4, .int v4)] []
        refine g_aload_n (pc := 109) C dX7_takeRule_109 rfl 2 rfl ?_
        refine g_aload_n (pc := 110) C dX7_takeRule_110 rfl 3 rfl ?_
        refine g_iconst (pc := 111) (v := 0) C dX7_takeRule_111 (by decide) ?_
        refine g_bipush (pc := 112) (v := 9) C dX7_takeRule_112 (by decide) ?_
        refine g_callV (pc := 114) C 7 (c_X7_takeNumber (Xl X) (Xb X) 0 9 S17) gX7_takeRule_X7_takeNumber rfl rfl rfl hd_X7_takeNumber ⟨Nat.le_of_ble_eq_true rfl, Nat.le_of_ble_eq_true rfl⟩ (w_7 _ _) rfl rfl rfl (Nat.le_of_ble_eq_true rfl) dX7_takeRule_114 h (fun r19 S18 h => ?_)
        change G X _ S18 117 [(6, .int x10), (5, .int r6), (0, .ref (ad X 7)), (1, .ref (ad X 5)), (2, .ref (ad X 6)), (3, .int v3), (4, .int v4)] [.int r19]
        refine g_if_ne (pc := 117) (tgt := 122) C h dX7_takeRule_117 (by decide) (fun h => ?_) (fun h => ?_)
        · refine g_aload_n (pc := 122) C dX7_takeRule_122 rfl 2 rfl ?_
          refine g_get (pc := 123) C 7 (w_7 _ _) rfl 3 (Nat.le_of_ble_eq_true rfl) in_X7_X7_takeRule k48_X7_takeRule rfl dX7_takeRule_123 ?_
          refine g_leti h (fun x20 h => ?_)
          refine g_istore (pc := 126) C [(4, .int x20), (6, .int x10), (5, .int r6), (0, .ref (ad X 7)), (1, .ref (ad X 5)), (2, .ref (ad X 6)), (3, .int v3)] dX7_takeRule_126 (Nat.le_of_ble_eq_true rfl) rfl ?_
          refine g_weak (lv1 := [(0, .ref (ad X 7)), (1, .ref (ad X 5)), (2, .ref (ad X 6)), (3, .int v3), (4, .int x20), (5, .int r6), (6, .int x10)]) [3, 4, 5, 6, 0, 2, 1] rfl ?_
          exact s_X7_takeRule_b128 C v3 x20 r6 x10  S18 h
        · refine g_iconst (pc := 120) (v := 0) C dX7_takeRule_120 (by decide) ?_
          exact g_zretc (pc := 121) C rfl h dX7_takeRule_121
    · refine g_iconst (pc := 86) (v := 0) C dX7_takeRule_86 (by decide) ?_
      exact g_zretc (pc := 87) C rfl h dX7_takeRule_87
  · refine g_iconst (pc := 59) (v := 0) C dX7_takeRule_59 (by decide) ?_
    exact g_zretc (pc := 60) C rfl h dX7_takeRule_60
set_option maxRecDepth 100000 in
set_option maxHeartbeats 4000000 in
theorem s_X7_takeRule_b0 {X : MC} (C : Cx X cX7_takeRule RX7 wsX7_takeRule 7 rmX7_takeRule (some .boolean)) (S : St) {r0 : Int32 × St} (h : f_X7_takeRule_b0 S = some r0) : G X (QM mkI X r0) S 0 [(0, .ref (ad X 7)), (1, .ref (ad X 5)), (2, .ref (ad X 6))] [] := by
  unfold f_X7_takeRule_b0 at h
  refine g_iconst (pc := 0) (v := (-1)) C dX7_takeRule_0 (by decide) ?_
  refine g_istore_n (pc := 1) C [(3, .int (-1)), (0, .ref (ad X 7)), (1, .ref (ad X 5)), (2, .ref (ad X 6))] dX7_takeRule_1 rfl (Nat.le_of_ble_eq_true rfl) rfl ?_
  refine g_iconst (pc := 2) (v := 0) C dX7_takeRule_2 (by decide) ?_
  refine g_istore (pc := 3) C [(4, .int 0), (3, .int (-1)), (0, .ref (ad X 7)), (1, .ref (ad X 5)), (2, .ref (ad X 6))] dX7_takeRule_3 (Nat.le_of_ble_eq_true rfl) rfl ?_
  refine g_aload_n (pc := 5) C dX7_takeRule_5 rfl 4 rfl ?_
  refine g_callV (pc := 6) C 6 (c_X8_areFull (Xl X) (Xb X) S) gX7_takeRule_X8_areFull rfl rfl rfl hd_X8_areFull ⟨Nat.le_of_ble_eq_true rfl, Nat.le_of_ble_eq_true rfl⟩ (w_6 _ _) rfl rfl rfl (Nat.le_of_ble_eq_true rfl) dX7_takeRule_6 h (fun r2 S1 h => ?_)
  change G X _ S1 9 [(4, .int 0), (3, .int (-1)), (0, .ref (ad X 7)), (1, .ref (ad X 5)), (2, .ref (ad X 6))] [.int r2]
  refine g_if_eq (pc := 9) (tgt := 14) C h dX7_takeRule_9 (by decide) (fun h => ?_) (fun h => ?_)
  · refine g_aload_n (pc := 14) C dX7_takeRule_14 rfl 2 rfl ?_
    refine g_aload_n (pc := 15) C dX7_takeRule_15 rfl 3 rfl ?_
    refine g_ldcS (pc := 16) C sr_X7_38 dX7_takeRule_16 ?_
    refine g_callV (pc := 18) C 7 (c_X7_isWord (Xl X) (Xb X) 14 S1) gX7_takeRule_X7_isWord rfl rfl rfl hd_X7_isWord ⟨Nat.le_of_ble_eq_true rfl, Nat.le_of_ble_eq_true rfl⟩ (w_7 _ _) rfl rfl rfl (Nat.le_of_ble_eq_true rfl) dX7_takeRule_18 h (fun r4 S3 h => ?_)
    change G X _ S3 21 [(4, .int 0), (3, .int (-1)), (0, .ref (ad X 7)), (1, .ref (ad X 5)), (2, .ref (ad X 6))] [.int r4]
    refine g_if_eq (pc := 21) (tgt := 46) C h dX7_takeRule_21 (by decide) (fun h => ?_) (fun h => ?_)
    · refine g_weak (lv1 := [(0, .ref (ad X 7)), (1, .ref (ad X 5)), (2, .ref (ad X 6)), (3, .int (-1)), (4, .int 0)]) [2, 3, 4, 1, 0] rfl ?_
      exact s_X7_takeRule_b46 C (-1) 0  S3 h
    · refine g_aload_n (pc := 24) C dX7_takeRule_24 rfl 2 rfl ?_
      refine g_aload_n (pc := 25) C dX7_takeRule_25 rfl 3 rfl ?_
      refine g_callV (pc := 26) C 7 (c_X7_takePiece (Xl X) (Xb X) S3) gX7_takeRule_X7_takePiece rfl rfl rfl hd_X7_takePiece ⟨Nat.le_of_ble_eq_true rfl, Nat.le_of_ble_eq_true rfl⟩ (w_7 _ _) rfl rfl rfl (Nat.le_of_ble_eq_true rfl) dX7_takeRule_26 h (fun _u21 S21 h => ?_)
      change G X _ S21 29 [(4, .int 0), (3, .int (-1)), (0, .ref (ad X 7)), (1, .ref (ad X 5)), (2, .ref (ad X 6))] []
      refine g_aload_n (pc := 29) C dX7_takeRule_29 rfl 2 rfl ?_
      refine g_aload_n (pc := 30) C dX7_takeRule_30 rfl 3 rfl ?_
      refine g_iconst (pc := 31) (v := 0) C dX7_takeRule_31 (by decide) ?_
      refine g_iconst (pc := 32) (v := 3) C dX7_takeRule_32 (by decide) ?_
      refine g_callV (pc := 33) C 7 (c_X7_takeNumber (Xl X) (Xb X) 0 3 S21) gX7_takeRule_X7_takeNumber rfl rfl rfl hd_X7_takeNumber ⟨Nat.le_of_ble_eq_true rfl, Nat.le_of_ble_eq_true rfl⟩ (w_7 _ _) rfl rfl rfl (Nat.le_of_ble_eq_true rfl) dX7_takeRule_33 h (fun r23 S22 h => ?_)
      change G X _ S22 36 [(4, .int 0), (3, .int (-1)), (0, .ref (ad X 7)), (1, .ref (ad X 5)), (2, .ref (ad X 6))] [.int r23]
      refine g_if_ne (pc := 36) (tgt := 41) C h dX7_takeRule_36 (by decide) (fun h => ?_) (fun h => ?_)
      · refine g_aload_n (pc := 41) C dX7_takeRule_41 rfl 2 rfl ?_
        refine g_get (pc := 42) C 7 (w_7 _ _) rfl 3 (Nat.le_of_ble_eq_true rfl) in_X7_X7_takeRule k48_X7_takeRule rfl dX7_takeRule_42 ?_
        refine g_leti h (fun x24 h => ?_)
        refine g_istore_n (pc := 45) C [(3, .int x24), (4, .int 0), (0, .ref (ad X 7)), (1, .ref (ad X 5)), (2, .ref (ad X 6))] dX7_takeRule_45 rfl (Nat.le_of_ble_eq_true rfl) rfl ?_
        refine g_weak (lv1 := [(0, .ref (ad X 7)), (1, .ref (ad X 5)), (2, .ref (ad X 6)), (3, .int x24), (4, .int 0)]) [2, 3, 4, 0, 1] rfl ?_
        exact s_X7_takeRule_b46 C x24 0  S22 h
      · refine g_iconst (pc := 39) (v := 0) C dX7_takeRule_39 (by decide) ?_
        exact g_zretc (pc := 40) C rfl h dX7_takeRule_40
  · refine g_iconst (pc := 12) (v := 0) C dX7_takeRule_12 (by decide) ?_
    exact g_zretc (pc := 13) C rfl h dX7_takeRule_13
theorem c_X7_takeRule (l : Launch) (b : Bw) (S : St) : Ct l b yX7_takeRule wsX7_takeRule rmX7_takeRule [.ref (bad b 7), .ref (bad b 5), .ref (bad b 6)] S mkI (f_X7_takeRule S) := Ct.of (by decide +kernel) rfl (Nat.le_of_ble_eq_true rfl) (fun X C hl hb r h => by
  subst hl; subst hb
  exact s_X7_takeRule_b0 C S h)
/-! StyleRows$Reader.findFault(LStyleRows$Tape;LStyleRows$Rules;)I -/
set_option maxRecDepth 100000 in
set_option maxHeartbeats 4000000 in
theorem s_X7_findFault_b16 {X : MC} (C : Cx X cX7_findFault RX7 wsX7_findFault 4 rmX7_findFault (some .int)) {rec16 : Int32 × St → Option (Int32 × St)} (v3 : Int32) (hrec16 : ∀ (s : Int32 × St) (r : Int32 × St), rec16 s = some r → G X (QM mkI X r) s.2 16 [(0, .ref (ad X 7)), (1, .ref (ad X 5)), (2, .ref (ad X 6)), (3, .int (s.1))] []) (S : St) {r0 : Int32 × St} (h : f_X7_findFault_b16 rec16 v3 S = some r0) : G X (QM mkI X r0) S 16 [(0, .ref (ad X 7)), (1, .ref (ad X 5)), (2, .ref (ad X 6)), (3, .int v3)] [] := by
  unfold f_X7_findFault_b16 at h
  refine g_iload_n (pc := 16) C dX7_findFault_16 rfl 3 rfl ?_
  refine g_bipush (pc := 17) (v := 24) C dX7_findFault_17 (by decide) ?_
  refine g_icmp_gt (pc := 19) (tgt := 51) C h dX7_findFault_19 (by decide) (fun h => ?_) (fun h => ?_)
  · refine g_aload_n (pc := 51) C dX7_findFault_51 rfl 0 rfl ?_
    refine g_get (pc := 52) C 7 (w_7 _ _) rfl 0 (Nat.le_of_ble_eq_true rfl) in_X7_X7_findFault k31_X7_findFault rfl dX7_findFault_52 ?_
    exact g_iret (pc := 55) C h dX7_findFault_55
  · refine g_aload_n (pc := 22) C dX7_findFault_22 rfl 0 rfl ?_
    refine g_get (pc := 23) C 7 (w_7 _ _) rfl 2 (Nat.le_of_ble_eq_true rfl) in_X7_X7_findFault k24_X7_findFault rfl dX7_findFault_23 ?_
    refine g_if_ne (pc := 26) (tgt := 31) C h dX7_findFault_26 (by decide) (fun h => ?_) (fun h => ?_)
    · refine g_aload_n (pc := 31) C dX7_findFault_31 rfl 0 rfl ?_
      refine g_aload_n (pc := 32) C dX7_findFault_32 rfl 1 rfl ?_
      refine g_aload_n (pc := 33) C dX7_findFault_33 rfl 2 rfl ?_
      refine g_callV (pc := 34) C 7 (c_X7_takeRule (Xl X) (Xb X) S) gX7_findFault_X7_takeRule rfl rfl rfl hd_X7_takeRule ⟨Nat.le_of_ble_eq_true rfl, Nat.le_of_ble_eq_true rfl⟩ (w_7 _ _) rfl rfl rfl (Nat.le_of_ble_eq_true rfl) dX7_findFault_34 h (fun r5 S4 h => ?_)
      change G X _ S4 37 [(0, .ref (ad X 7)), (1, .ref (ad X 5)), (2, .ref (ad X 6)), (3, .int v3)] [.int r5]
      refine g_if_ne (pc := 37) (tgt := 45) C h dX7_findFault_37 (by decide) (fun h => ?_) (fun h => ?_)
      · refine g_iinc (pc := 45) (v := v3 + 1) C [(3, .int (v3 + 1)), (0, .ref (ad X 7)), (1, .ref (ad X 5)), (2, .ref (ad X 6))] dX7_findFault_45 3 rfl rfl (Nat.le_of_ble_eq_true rfl) rfl ?_
        refine g_goto (pc := 48) (tgt := 16) C dX7_findFault_48 (by decide) ?_
        refine g_weak (lv1 := [(0, .ref (ad X 7)), (1, .ref (ad X 5)), (2, .ref (ad X 6)), (3, .int (v3 + 1))]) [1, 2, 3, 0] rfl ?_
        exact hrec16 (v3 + 1, S4) _ h
      · refine g_aload_n (pc := 40) C dX7_findFault_40 rfl 0 rfl ?_
        refine g_get (pc := 41) C 7 (w_7 _ _) rfl 0 (Nat.le_of_ble_eq_true rfl) in_X7_X7_findFault k31_X7_findFault rfl dX7_findFault_41 ?_
        exact g_iret (pc := 44) C h dX7_findFault_44
    · refine g_iconst (pc := 29) (v := (-1)) C dX7_findFault_29 (by decide) ?_
      exact g_iret (pc := 30) C h dX7_findFault_30
set_option maxRecDepth 100000 in
set_option maxHeartbeats 4000000 in
theorem s_X7_findFault_l16 {X : MC} (C : Cx X cX7_findFault RX7 wsX7_findFault 4 rmX7_findFault (some .int)) : ∀ (n : Nat) (s : Int32 × St) (r : Int32 × St), f_X7_findFault_l16 n s = some r → G X (QM mkI X r) s.2 16 [(0, .ref (ad X 7)), (1, .ref (ad X 5)), (2, .ref (ad X 6)), (3, .int (s.1))] [] :=
  loop_sound (fun rec16 hrec16 s r h => s_X7_findFault_b16 C s.1 hrec16 s.2 h)
set_option maxRecDepth 100000 in
set_option maxHeartbeats 4000000 in
theorem s_X7_findFault_b0 {X : MC} (C : Cx X cX7_findFault RX7 wsX7_findFault 4 rmX7_findFault (some .int)) (S : St) {r0 : Int32 × St} (h : f_X7_findFault_b0 S = some r0) : G X (QM mkI X r0) S 0 [(0, .ref (ad X 7)), (1, .ref (ad X 5)), (2, .ref (ad X 6))] [] := by
  unfold f_X7_findFault_b0 at h
  refine g_aload_n (pc := 0) C dX7_findFault_0 rfl 2 rfl ?_
  refine g_callV (pc := 1) C 6 (c_X8_dropStaged (Xl X) (Xb X) S) gX7_findFault_X8_dropStaged rfl rfl rfl hd_X8_dropStaged ⟨Nat.le_of_ble_eq_true rfl, Nat.le_of_ble_eq_true rfl⟩ (w_6 _ _) rfl rfl rfl (Nat.le_of_ble_eq_true rfl) dX7_findFault_1 h (fun _u1 S1 h => ?_)
  change G X _ S1 4 [(0, .ref (ad X 7)), (1, .ref (ad X 5)), (2, .ref (ad X 6))] []
  refine g_aload_n (pc := 4) C dX7_findFault_4 rfl 0 rfl ?_
  refine g_iconst (pc := 5) (v := 0) C dX7_findFault_5 (by decide) ?_
  refine g_put (pc := 6) C 7 (w_7 _ _) rfl 1 (Nat.le_of_ble_eq_true rfl) in_X7_X7_findFault tyX7_ok nmX7 k14_X7_findFault rfl rfl rfl (Nat.le_of_ble_eq_true rfl) (ws_7_1 _ _ _) dX7_findFault_6 h (fun S2 h => ?_)
  refine g_aload_n (pc := 9) C dX7_findFault_9 rfl 0 rfl ?_
  refine g_aload_n (pc := 10) C dX7_findFault_10 rfl 1 rfl ?_
  refine g_callV (pc := 11) C 7 (c_X7_takePiece (Xl X) (Xb X) S2) gX7_findFault_X7_takePiece rfl rfl rfl hd_X7_takePiece ⟨Nat.le_of_ble_eq_true rfl, Nat.le_of_ble_eq_true rfl⟩ (w_7 _ _) rfl rfl rfl (Nat.le_of_ble_eq_true rfl) dX7_findFault_11 h (fun _u3 S3 h => ?_)
  change G X _ S3 14 [(0, .ref (ad X 7)), (1, .ref (ad X 5)), (2, .ref (ad X 6))] []
  refine g_iconst (pc := 14) (v := 0) C dX7_findFault_14 (by decide) ?_
  refine g_istore_n (pc := 15) C [(3, .int 0), (0, .ref (ad X 7)), (1, .ref (ad X 5)), (2, .ref (ad X 6))] dX7_findFault_15 rfl (Nat.le_of_ble_eq_true rfl) rfl ?_
  refine g_weak (lv1 := [(0, .ref (ad X 7)), (1, .ref (ad X 5)), (2, .ref (ad X 6)), (3, .int 0)]) [1, 2, 3, 0] rfl ?_
  exact s_X7_findFault_l16 C  _ (0, S3) _ h
theorem c_X7_findFault (l : Launch) (b : Bw) (S : St) : Ct l b yX7_findFault wsX7_findFault rmX7_findFault [.ref (bad b 7), .ref (bad b 5), .ref (bad b 6)] S mkI (f_X7_findFault S) := Ct.of (by decide +kernel) rfl (Nat.le_of_ble_eq_true rfl) (fun X C hl hb r h => by
  subst hl; subst hb
  exact s_X7_findFault_b0 C S h)
/-! StyleRows$Tape.clear()V -/
set_option maxRecDepth 100000 in
set_option maxHeartbeats 4000000 in
theorem s_X10_clear_b0 {X : MC} (C : Cx X cX10_clear RX10 wsX10_clear 1 rmX10_clear none) (S : St) {r0 : Unit × St} (h : f_X10_clear_b0 S = some r0) : G X (QM mkV X r0) S 0 [(0, .ref (ad X 5))] [] := by
  unfold f_X10_clear_b0 at h
  refine g_aload_n (pc := 0) C dX10_clear_0 rfl 0 rfl ?_
  refine g_iconst (pc := 1) (v := 0) C dX10_clear_1 (by decide) ?_
  refine g_put (pc := 2) C 5 (w_5 _ _) rfl 1 (Nat.le_of_ble_eq_true rfl) in_X10_X10_clear tyX10_ok nmX10 k15_X10_clear rfl rfl rfl (Nat.le_of_ble_eq_true rfl) (ws_5_1 _ _ _) dX10_clear_2 h (fun S1 h => ?_)
  exact g_vret (pc := 5) C h dX10_clear_5
theorem c_X10_clear (l : Launch) (b : Bw) (S : St) : Ct l b yX10_clear wsX10_clear rmX10_clear [.ref (bad b 5)] S mkV (f_X10_clear S) := Ct.of (by decide +kernel) rfl (Nat.le_of_ble_eq_true rfl) (fun X C hl hb r h => by
  subst hl; subst hb
  exact s_X10_clear_b0 C S h)
/-! StyleRows$Rules.isOutrankedBy(II)Z -/
set_option maxRecDepth 100000 in
set_option maxHeartbeats 4000000 in
theorem s_X8_isOutrankedBy_b29 {X : MC} (C : Cx X cX8_isOutrankedBy RX8 wsX8_isOutrankedBy 3 rmX8_isOutrankedBy (some .boolean)) (w0 : Int32) (S : St) {r0 : Int32 × St} (h : f_X8_isOutrankedBy_b29 w0 S = some r0) : G X (QM mkI X r0) S 29 [] [.int w0] := by
  unfold f_X8_isOutrankedBy_b29 at h
  exact g_zret (pc := 29) C h dX8_isOutrankedBy_29
set_option maxRecDepth 100000 in
set_option maxHeartbeats 4000000 in
theorem s_X8_isOutrankedBy_b24 {X : MC} (C : Cx X cX8_isOutrankedBy RX8 wsX8_isOutrankedBy 3 rmX8_isOutrankedBy (some .boolean)) (S : St) {r0 : Int32 × St} (h : f_X8_isOutrankedBy_b24 S = some r0) : G X (QM mkI X r0) S 24 [] [] := by
  unfold f_X8_isOutrankedBy_b24 at h
  refine g_iconst (pc := 24) (v := 1) C dX8_isOutrankedBy_24 (by decide) ?_
  refine g_goto (pc := 25) (tgt := 29) C dX8_isOutrankedBy_25 (by decide) ?_
  refine g_weak (lv1 := []) [] rfl ?_
  exact s_X8_isOutrankedBy_b29 C 1  S h
set_option maxRecDepth 100000 in
set_option maxHeartbeats 4000000 in
theorem s_X8_isOutrankedBy_b0 {X : MC} (C : Cx X cX8_isOutrankedBy RX8 wsX8_isOutrankedBy 3 rmX8_isOutrankedBy (some .boolean)) (a1 : Int32) (a2 : Int32) (S : St) {r0 : Int32 × St} (h : f_X8_isOutrankedBy_b0 a1 a2 S = some r0) : G X (QM mkI X r0) S 0 [(0, .ref (ad X 6)), (1, .int a1), (2, .int a2)] [] := by
  unfold f_X8_isOutrankedBy_b0 at h
  refine g_iload_n (pc := 0) C dX8_isOutrankedBy_0 rfl 1 rfl ?_
  refine g_iconst (pc := 1) (v := (-1)) C dX8_isOutrankedBy_1 (by decide) ?_
  refine g_icmp_eq (pc := 2) (tgt := 24) C h dX8_isOutrankedBy_2 (by decide) (fun h => ?_) (fun h => ?_)
  · refine g_weak (lv1 := []) [] rfl ?_
    exact s_X8_isOutrankedBy_b24 C   S h
  · refine g_aload_n (pc := 5) C dX8_isOutrankedBy_5 rfl 0 rfl ?_
    refine g_get (pc := 6) C 6 (w_6 _ _) rfl 0 (Nat.le_of_ble_eq_true rfl) in_X8_X8_isOutrankedBy k13_X8_isOutrankedBy rfl dX8_isOutrankedBy_6 ?_
    refine g_iconst (pc := 9) (v := 3) C dX8_isOutrankedBy_9 (by decide) ?_
    refine g_aaldc (pc := 10) (i := 3) C 25 29 (w_25 _ _) rfl rfl dX8_isOutrankedBy_10 ?_
    refine g_iload_n (pc := 11) C dX8_isOutrankedBy_11 rfl 1 rfl ?_
    refine g_iald (pc := 12) C 29 (w_29 _ _) h dX8_isOutrankedBy_12 (fun h => ?_)
    refine g_aload_n (pc := 13) C dX8_isOutrankedBy_13 rfl 0 rfl ?_
    refine g_get (pc := 14) C 6 (w_6 _ _) rfl 0 (Nat.le_of_ble_eq_true rfl) in_X8_X8_isOutrankedBy k13_X8_isOutrankedBy rfl dX8_isOutrankedBy_14 ?_
    refine g_iconst (pc := 17) (v := 3) C dX8_isOutrankedBy_17 (by decide) ?_
    refine g_aaldc (pc := 18) (i := 3) C 25 29 (w_25 _ _) rfl rfl dX8_isOutrankedBy_18 ?_
    refine g_iload_n (pc := 19) C dX8_isOutrankedBy_19 rfl 2 rfl ?_
    refine g_iald (pc := 20) C 29 (w_29 _ _) h dX8_isOutrankedBy_20 (fun h => ?_)
    refine g_icmp_gt (pc := 21) (tgt := 28) C h dX8_isOutrankedBy_21 (by decide) (fun h => ?_) (fun h => ?_)
    · refine g_iconst (pc := 28) (v := 0) C dX8_isOutrankedBy_28 (by decide) ?_
      refine g_weak (lv1 := []) [] rfl ?_
      exact s_X8_isOutrankedBy_b29 C 0  S h
    · refine g_weak (lv1 := []) [] rfl ?_
      exact s_X8_isOutrankedBy_b24 C   S h
theorem c_X8_isOutrankedBy (l : Launch) (b : Bw) (a1 : Int32) (a2 : Int32) (S : St) : Ct l b yX8_isOutrankedBy wsX8_isOutrankedBy rmX8_isOutrankedBy [.ref (bad b 6), .int a1, .int a2] S mkI (f_X8_isOutrankedBy a1 a2 S) := Ct.of (by decide +kernel) rfl (Nat.le_of_ble_eq_true rfl) (fun X C hl hb r h => by
  subst hl; subst hb
  exact s_X8_isOutrankedBy_b0 C a1 a2 S h)
/-! StyleRows$Rules.letCount(I)V -/
set_option maxRecDepth 100000 in
set_option maxHeartbeats 4000000 in
theorem s_X8_letCount_b64 {X : MC} (C : Cx X cX8_letCount RX8 wsX8_letCount 5 rmX8_letCount none) {rec2 : Int32 × St → Option (Unit × St)} (v1 : Int32) (v2 : Int32) (hrec2 : ∀ (s : Int32 × St) (r : Unit × St), rec2 s = some r → G X (QM mkV X r) s.2 2 [(0, .ref (ad X 6)), (1, .int v1), (2, .int (s.1))] []) (S : St) {r0 : Unit × St} (h : f_X8_letCount_b64 rec2 v1 v2 S = some r0) : G X (QM mkV X r0) S 64 [(0, .ref (ad X 6)), (1, .int v1), (2, .int v2)] [] := by
  unfold f_X8_letCount_b64 at h
  refine g_iinc (pc := 64) (v := v2 + 1) C [(2, .int (v2 + 1)), (0, .ref (ad X 6)), (1, .int v1)] dX8_letCount_64 2 rfl rfl (Nat.le_of_ble_eq_true rfl) rfl ?_
  refine g_goto (pc := 67) (tgt := 2) C dX8_letCount_67 (by decide) ?_
  refine g_weak (lv1 := [(0, .ref (ad X 6)), (1, .int v1), (2, .int (v2 + 1))]) [1, 2, 0] rfl ?_
  exact hrec2 (v2 + 1, S) _ h
set_option maxRecDepth 100000 in
set_option maxHeartbeats 4000000 in
theorem s_X8_letCount_b41 {X : MC} (C : Cx X cX8_letCount RX8 wsX8_letCount 5 rmX8_letCount none) {rec2 : Int32 × St → Option (Unit × St)} (v1 : Int32) (v2 : Int32) (v4 : Int32) (hrec2 : ∀ (s : Int32 × St) (r : Unit × St), rec2 s = some r → G X (QM mkV X r) s.2 2 [(0, .ref (ad X 6)), (1, .int v1), (2, .int (s.1))] []) (S : St) {r0 : Unit × St} (h : f_X8_letCount_b41 rec2 v1 v2 v4 S = some r0) : G X (QM mkV X r0) S 41 [(0, .ref (ad X 6)), (1, .int v1), (2, .int v2), (4, .int v4)] [] := by
  unfold f_X8_letCount_b41 at h
  refine g_aload_n (pc := 41) C dX8_letCount_41 rfl 0 rfl ?_
  refine g_aload_n (pc := 42) C dX8_letCount_42 rfl 0 rfl ?_
  refine g_get (pc := 43) C 6 (w_6 _ _) rfl 1 (Nat.le_of_ble_eq_true rfl) in_X8_X8_letCount k18_X8_letCount rfl dX8_letCount_43 ?_
  refine g_iload (pc := 46) C dX8_letCount_46 3 rfl ?_
  refine g_iald (pc := 48) C 30 (w_30 _ _) h dX8_letCount_48 (fun h => ?_)
  refine g_iload_n (pc := 49) C dX8_letCount_49 rfl 1 rfl ?_
  refine g_callV (pc := 50) C 6 (c_X8_isOutrankedBy (Xl X) (Xb X) (rd S 30 v4) v1 S) gX8_letCount_X8_isOutrankedBy rfl rfl rfl hd_X8_isOutrankedBy ⟨Nat.le_of_ble_eq_true rfl, Nat.le_of_ble_eq_true rfl⟩ (w_6 _ _) rfl rfl rfl (Nat.le_of_ble_eq_true rfl) dX8_letCount_50 h (fun r4 S3 h => ?_)
  change G X _ S3 53 [(0, .ref (ad X 6)), (1, .int v1), (2, .int v2), (4, .int v4)] [.int r4]
  refine g_if_eq (pc := 53) (tgt := 64) C h dX8_letCount_53 (by decide) (fun h => ?_) (fun h => ?_)
  · refine g_weak (lv1 := [(0, .ref (ad X 6)), (1, .int v1), (2, .int v2)]) [0, 1, 2] rfl ?_
    exact s_X8_letCount_b64 C v1 v2 hrec2  S3 h
  · refine g_aload_n (pc := 56) C dX8_letCount_56 rfl 0 rfl ?_
    refine g_get (pc := 57) C 6 (w_6 _ _) rfl 1 (Nat.le_of_ble_eq_true rfl) in_X8_X8_letCount k18_X8_letCount rfl dX8_letCount_57 ?_
    refine g_iload (pc := 60) C dX8_letCount_60 3 rfl ?_
    refine g_iload_n (pc := 62) C dX8_letCount_62 rfl 1 rfl ?_
    refine g_iast (pc := 63) C 30 (w_30 _ _) (ws_30 _ _) h dX8_letCount_63 (fun S5 h => ?_)
    refine g_weak (lv1 := [(0, .ref (ad X 6)), (1, .int v1), (2, .int v2)]) [0, 1, 2] rfl ?_
    exact s_X8_letCount_b64 C v1 v2 hrec2  S5 h
set_option maxRecDepth 100000 in
set_option maxHeartbeats 4000000 in
theorem s_X8_letCount_b2 {X : MC} (C : Cx X cX8_letCount RX8 wsX8_letCount 5 rmX8_letCount none) {rec2 : Int32 × St → Option (Unit × St)} (v1 : Int32) (v2 : Int32) (hrec2 : ∀ (s : Int32 × St) (r : Unit × St), rec2 s = some r → G X (QM mkV X r) s.2 2 [(0, .ref (ad X 6)), (1, .int v1), (2, .int (s.1))] []) (S : St) {r0 : Unit × St} (h : f_X8_letCount_b2 rec2 v1 v2 S = some r0) : G X (QM mkV X r0) S 2 [(0, .ref (ad X 6)), (1, .int v1), (2, .int v2)] [] := by
  unfold f_X8_letCount_b2 at h
  refine g_iload_n (pc := 2) C dX8_letCount_2 rfl 2 rfl ?_
  refine g_iconst (pc := 3) (v := 4) C dX8_letCount_3 (by decide) ?_
  refine g_icmp_ge (pc := 4) (tgt := 70) C h dX8_letCount_4 (by decide) (fun h => ?_) (fun h => ?_)
  · exact g_vret (pc := 70) C h dX8_letCount_70
  · refine g_aload_n (pc := 7) C dX8_letCount_7 rfl 0 rfl ?_
    refine g_get (pc := 8) C 6 (w_6 _ _) rfl 0 (Nat.le_of_ble_eq_true rfl) in_X8_X8_letCount k13_X8_letCount rfl dX8_letCount_8 ?_
    refine g_iconst (pc := 11) (v := 0) C dX8_letCount_11 (by decide) ?_
    refine g_aaldc (pc := 12) (i := 0) C 25 26 (w_25 _ _) rfl rfl dX8_letCount_12 ?_
    refine g_iload_n (pc := 13) C dX8_letCount_13 rfl 1 rfl ?_
    refine g_iald (pc := 14) C 26 (w_26 _ _) h dX8_letCount_14 (fun h => ?_)
    refine g_leti h (fun x1 h => ?_)
    refine g_istore_n (pc := 15) C [(3, .int x1), (0, .ref (ad X 6)), (1, .int v1), (2, .int v2)] dX8_letCount_15 rfl (Nat.le_of_ble_eq_true rfl) rfl ?_
    refine g_iload_n (pc := 16) C dX8_letCount_16 rfl 3 rfl ?_
    refine g_bipush (pc := 17) (v := 13) C dX8_letCount_17 (by decide) ?_
    refine g_imul (pc := 19) C dX8_letCount_19 ?_
    refine g_aload_n (pc := 20) C dX8_letCount_20 rfl 1 rfl ?_
    refine g_get (pc := 21) C 6 (w_6 _ _) rfl 0 (Nat.le_of_ble_eq_true rfl) in_X8_X8_letCount k13_X8_letCount rfl dX8_letCount_21 ?_
    refine g_iconst (pc := 24) (v := 1) C dX8_letCount_24 (by decide) ?_
    refine g_aaldc (pc := 25) (i := 1) C 25 27 (w_25 _ _) rfl rfl dX8_letCount_25 ?_
    refine g_iload_n (pc := 26) C dX8_letCount_26 rfl 2 rfl ?_
    refine g_iald (pc := 27) C 27 (w_27 _ _) h dX8_letCount_27 (fun h => ?_)
    refine g_iadd (pc := 28) C dX8_letCount_28 ?_
    refine g_leti h (fun x2 h => ?_)
    refine g_istore (pc := 29) C [(4, .int x2), (3, .int x1), (0, .ref (ad X 6)), (1, .int v1), (2, .int v2)] dX8_letCount_29 (Nat.le_of_ble_eq_true rfl) rfl ?_
    refine g_iload_n (pc := 31) C dX8_letCount_31 rfl 1 rfl ?_
    refine g_iconst (pc := 32) (v := (-1)) C dX8_letCount_32 (by decide) ?_
    refine g_icmp_eq (pc := 33) (tgt := 41) C h dX8_letCount_33 (by decide) (fun h => ?_) (fun h => ?_)
    · refine g_weak (lv1 := [(0, .ref (ad X 6)), (1, .int v1), (2, .int v2), (4, .int x2)]) [2, 3, 4, 0] rfl ?_
      exact s_X8_letCount_b41 C v1 v2 x2 hrec2  S h
    · refine g_iload_n (pc := 36) C dX8_letCount_36 rfl 1 rfl ?_
      refine g_iload_n (pc := 37) C dX8_letCount_37 rfl 4 rfl ?_
      refine g_icmp_ne (pc := 38) (tgt := 64) C h dX8_letCount_38 (by decide) (fun h => ?_) (fun h => ?_)
      · refine g_weak (lv1 := [(0, .ref (ad X 6)), (1, .int v1), (2, .int v2)]) [2, 3, 4] rfl ?_
        exact s_X8_letCount_b64 C v1 v2 hrec2  S h
      · refine g_weak (lv1 := [(0, .ref (ad X 6)), (1, .int v1), (2, .int v2), (4, .int x2)]) [2, 3, 4, 0] rfl ?_
        exact s_X8_letCount_b41 C v1 v2 x2 hrec2  S h
set_option maxRecDepth 100000 in
set_option maxHeartbeats 4000000 in
theorem s_X8_letCount_l2 {X : MC} (C : Cx X cX8_letCount RX8 wsX8_letCount 5 rmX8_letCount none) (v1 : Int32) : ∀ (n : Nat) (s : Int32 × St) (r : Unit × St), f_X8_letCount_l2 v1 n s = some r → G X (QM mkV X r) s.2 2 [(0, .ref (ad X 6)), (1, .int v1), (2, .int (s.1))] [] :=
  loop_sound (fun rec2 hrec2 s r h => s_X8_letCount_b2 C v1 s.1 hrec2 s.2 h)
set_option maxRecDepth 100000 in
set_option maxHeartbeats 4000000 in
theorem s_X8_letCount_b0 {X : MC} (C : Cx X cX8_letCount RX8 wsX8_letCount 5 rmX8_letCount none) (a1 : Int32) (S : St) {r0 : Unit × St} (h : f_X8_letCount_b0 a1 S = some r0) : G X (QM mkV X r0) S 0 [(0, .ref (ad X 6)), (1, .int a1)] [] := by
  unfold f_X8_letCount_b0 at h
  refine g_iconst (pc := 0) (v := 0) C dX8_letCount_0 (by decide) ?_
  refine g_istore_n (pc := 1) C [(2, .int 0), (0, .ref (ad X 6)), (1, .int a1)] dX8_letCount_1 rfl (Nat.le_of_ble_eq_true rfl) rfl ?_
  refine g_weak (lv1 := [(0, .ref (ad X 6)), (1, .int a1), (2, .int 0)]) [1, 2, 0] rfl ?_
  exact s_X8_letCount_l2 C a1 _ (0, S) _ h
theorem c_X8_letCount (l : Launch) (b : Bw) (a1 : Int32) (S : St) : Ct l b yX8_letCount wsX8_letCount rmX8_letCount [.ref (bad b 6), .int a1] S mkV (f_X8_letCount a1 S) := Ct.of (by decide +kernel) rfl (Nat.le_of_ble_eq_true rfl) (fun X C hl hb r h => by
  subst hl; subst hb
  exact s_X8_letCount_b0 C a1 S h)
/-! StyleRows$Rules.keepStaged()I -/
set_option maxRecDepth 100000 in
set_option maxHeartbeats 4000000 in
theorem s_X8_keepStaged_b5 {X : MC} (C : Cx X cX8_keepStaged RX8 wsX8_keepStaged 2 rmX8_keepStaged (some .int)) {rec5 : Int32 × St → Option (Int32 × St)} (v1 : Int32) (hrec5 : ∀ (s : Int32 × St) (r : Int32 × St), rec5 s = some r → G X (QM mkI X r) s.2 5 [(0, .ref (ad X 6)), (1, .int (s.1))] []) (S : St) {r0 : Int32 × St} (h : f_X8_keepStaged_b5 rec5 v1 S = some r0) : G X (QM mkI X r0) S 5 [(0, .ref (ad X 6)), (1, .int v1)] [] := by
  unfold f_X8_keepStaged_b5 at h
  refine g_iload_n (pc := 5) C dX8_keepStaged_5 rfl 1 rfl ?_
  refine g_aload_n (pc := 6) C dX8_keepStaged_6 rfl 0 rfl ?_
  refine g_get (pc := 7) C 6 (w_6 _ _) rfl 3 (Nat.le_of_ble_eq_true rfl) in_X8_X8_keepStaged k30_X8_keepStaged rfl dX8_keepStaged_7 ?_
  refine g_icmp_ge (pc := 10) (tgt := 24) C h dX8_keepStaged_10 (by decide) (fun h => ?_) (fun h => ?_)
  · refine g_aload_n (pc := 24) C dX8_keepStaged_24 rfl 0 rfl ?_
    refine g_aload_n (pc := 25) C dX8_keepStaged_25 rfl 0 rfl ?_
    refine g_get (pc := 26) C 6 (w_6 _ _) rfl 3 (Nat.le_of_ble_eq_true rfl) in_X8_X8_keepStaged k30_X8_keepStaged rfl dX8_keepStaged_26 ?_
    refine g_put (pc := 29) C 6 (w_6 _ _) rfl 2 (Nat.le_of_ble_eq_true rfl) in_X8_X8_keepStaged tyX8_ok nmX8 k26_X8_keepStaged rfl rfl rfl (Nat.le_of_ble_eq_true rfl) (ws_6_2 _ _ _) dX8_keepStaged_29 h (fun S2 h => ?_)
    refine g_aload_n (pc := 32) C dX8_keepStaged_32 rfl 0 rfl ?_
    refine g_get (pc := 33) C 6 (w_6 _ _) rfl 2 (Nat.le_of_ble_eq_true rfl) in_X8_X8_keepStaged k26_X8_keepStaged rfl dX8_keepStaged_33 ?_
    exact g_iret (pc := 36) C h dX8_keepStaged_36
  · refine g_aload_n (pc := 13) C dX8_keepStaged_13 rfl 0 rfl ?_
    refine g_iload_n (pc := 14) C dX8_keepStaged_14 rfl 1 rfl ?_
    refine g_callV (pc := 15) C 6 (c_X8_letCount (Xl X) (Xb X) v1 S) gX8_keepStaged_X8_letCount rfl rfl rfl hd_X8_letCount ⟨Nat.le_of_ble_eq_true rfl, Nat.le_of_ble_eq_true rfl⟩ (w_6 _ _) rfl rfl rfl (Nat.le_of_ble_eq_true rfl) dX8_keepStaged_15 h (fun _u3 S3 h => ?_)
    change G X _ S3 18 [(0, .ref (ad X 6)), (1, .int v1)] []
    refine g_iinc (pc := 18) (v := v1 + 1) C [(1, .int (v1 + 1)), (0, .ref (ad X 6))] dX8_keepStaged_18 1 rfl rfl (Nat.le_of_ble_eq_true rfl) rfl ?_
    refine g_goto (pc := 21) (tgt := 5) C dX8_keepStaged_21 (by decide) ?_
    refine g_weak (lv1 := [(0, .ref (ad X 6)), (1, .int (v1 + 1))]) [1, 0] rfl ?_
    exact hrec5 (v1 + 1, S3) _ h
set_option maxRecDepth 100000 in
set_option maxHeartbeats 4000000 in
theorem s_X8_keepStaged_l5 {X : MC} (C : Cx X cX8_keepStaged RX8 wsX8_keepStaged 2 rmX8_keepStaged (some .int)) : ∀ (n : Nat) (s : Int32 × St) (r : Int32 × St), f_X8_keepStaged_l5 n s = some r → G X (QM mkI X r) s.2 5 [(0, .ref (ad X 6)), (1, .int (s.1))] [] :=
  loop_sound (fun rec5 hrec5 s r h => s_X8_keepStaged_b5 C s.1 hrec5 s.2 h)
set_option maxRecDepth 100000 in
set_option maxHeartbeats 4000000 in
theorem s_X8_keepStaged_b0 {X : MC} (C : Cx X cX8_keepStaged RX8 wsX8_keepStaged 2 rmX8_keepStaged (some .int)) (S : St) {r0 : Int32 × St} (h : f_X8_keepStaged_b0 S = some r0) : G X (QM mkI X r0) S 0 [(0, .ref (ad X 6))] [] := by
  unfold f_X8_keepStaged_b0 at h
  refine g_aload_n (pc := 0) C dX8_keepStaged_0 rfl 0 rfl ?_
  refine g_get (pc := 1) C 6 (w_6 _ _) rfl 2 (Nat.le_of_ble_eq_true rfl) in_X8_X8_keepStaged k26_X8_keepStaged rfl dX8_keepStaged_1 ?_
  refine g_leti h (fun x1 h => ?_)
  refine g_istore_n (pc := 4) C [(1, .int x1), (0, .ref (ad X 6))] dX8_keepStaged_4 rfl (Nat.le_of_ble_eq_true rfl) rfl ?_
  refine g_weak (lv1 := [(0, .ref (ad X 6)), (1, .int x1)]) [1, 0] rfl ?_
  exact s_X8_keepStaged_l5 C  _ (x1, S) _ h
theorem c_X8_keepStaged (l : Launch) (b : Bw) (S : St) : Ct l b yX8_keepStaged wsX8_keepStaged rmX8_keepStaged [.ref (bad b 6)] S mkI (f_X8_keepStaged S) := Ct.of (by decide +kernel) rfl (Nat.le_of_ble_eq_true rfl) (fun X C hl hb r h => by
  subst hl; subst hb
  exact s_X8_keepStaged_b0 C S h)
/-! StyleRows.read()I -/
set_option maxRecDepth 100000 in
set_option maxHeartbeats 4000000 in
theorem s_X11_read_b42 {X : MC} (C : Cx X cX11_read RX11 wsX11_read 2 rmX11_read (some .int)) (w0 : Int32) (S : St) {r0 : Int32 × St} (h : f_X11_read_b42 w0 S = some r0) : G X (QM mkI X r0) S 42 [] [.int w0] := by
  unfold f_X11_read_b42 at h
  exact g_iret (pc := 42) C h dX11_read_42
set_option maxRecDepth 100000 in
set_option maxHeartbeats 4000000 in
theorem s_X11_read_b0 {X : MC} (C : Cx X cX11_read RX11 wsX11_read 2 rmX11_read (some .int)) (S : St) {r0 : Int32 × St} (h : f_X11_read_b0 S = some r0) : G X (QM mkI X r0) S 0 [(0, .ref (ad X 0))] [] := by
  unfold f_X11_read_b0 at h
  refine g_aload_n (pc := 0) C dX11_read_0 rfl 0 rfl ?_
  refine g_get (pc := 1) C 0 (w_0 _ _) rfl 4 (Nat.le_of_ble_eq_true rfl) in_X11_X11_read k37_X11_read rfl dX11_read_1 ?_
  refine g_aload_n (pc := 4) C dX11_read_4 rfl 0 rfl ?_
  refine g_get (pc := 5) C 0 (w_0 _ _) rfl 2 (Nat.le_of_ble_eq_true rfl) in_X11_X11_read k23_X11_read rfl dX11_read_5 ?_
  refine g_aload_n (pc := 8) C dX11_read_8 rfl 0 rfl ?_
  refine g_get (pc := 9) C 0 (w_0 _ _) rfl 3 (Nat.le_of_ble_eq_true rfl) in_X11_X11_read k30_X11_read rfl dX11_read_9 ?_
  refine g_callV (pc := 12) C 7 (c_X7_findFault (Xl X) (Xb X) S) gX11_read_X7_findFault rfl rfl rfl hd_X7_findFault ⟨Nat.le_of_ble_eq_true rfl, Nat.le_of_ble_eq_true rfl⟩ (w_7 _ _) rfl rfl rfl (Nat.le_of_ble_eq_true rfl) dX11_read_12 h (fun r2 S1 h => ?_)
  change G X _ S1 15 [(0, .ref (ad X 0))] [.int r2]
  refine g_istore_n (pc := 15) C [(1, .int r2), (0, .ref (ad X 0))] dX11_read_15 rfl (Nat.le_of_ble_eq_true rfl) rfl ?_
  refine g_aload_n (pc := 16) C dX11_read_16 rfl 1 rfl ?_
  refine g_get (pc := 17) C 0 (w_0 _ _) rfl 2 (Nat.le_of_ble_eq_true rfl) in_X11_X11_read k23_X11_read rfl dX11_read_17 ?_
  refine g_callV (pc := 20) C 5 (c_X10_clear (Xl X) (Xb X) S1) gX11_read_X10_clear rfl rfl rfl hd_X10_clear ⟨Nat.le_of_ble_eq_true rfl, Nat.le_of_ble_eq_true rfl⟩ (w_5 _ _) rfl rfl rfl (Nat.le_of_ble_eq_true rfl) dX11_read_20 h (fun _u3 S3 h => ?_)
  change G X _ S3 23 [(1, .int r2), (0, .ref (ad X 0))] []
  refine g_iload_n (pc := 23) C dX11_read_23 rfl 0 rfl ?_
  refine g_iconst (pc := 24) (v := (-1)) C dX11_read_24 (by decide) ?_
  refine g_icmp_ne (pc := 25) (tgt := 38) C h dX11_read_25 (by decide) (fun h => ?_) (fun h => ?_)
  · refine g_bipush (pc := 38) (v := (-10)) C dX11_read_38 (by decide) ?_
    refine g_iload_n (pc := 40) C dX11_read_40 rfl 0 rfl ?_
    refine g_isub (pc := 41) C dX11_read_41 ?_
    refine g_weak (lv1 := []) [] rfl ?_
    exact s_X11_read_b42 C ((-10) - r2)  S3 h
  · refine g_aload_n (pc := 28) C dX11_read_28 rfl 1 rfl ?_
    refine g_get (pc := 29) C 0 (w_0 _ _) rfl 3 (Nat.le_of_ble_eq_true rfl) in_X11_X11_read k30_X11_read rfl dX11_read_29 ?_
    refine g_callV (pc := 32) C 6 (c_X8_keepStaged (Xl X) (Xb X) S3) gX11_read_X8_keepStaged rfl rfl rfl hd_X8_keepStaged ⟨Nat.le_of_ble_eq_true rfl, Nat.le_of_ble_eq_true rfl⟩ (w_6 _ _) rfl rfl rfl (Nat.le_of_ble_eq_true rfl) dX11_read_32 h (fun r5 S4 h => ?_)
    change G X _ S4 35 [(1, .int r2), (0, .ref (ad X 0))] [.int r5]
    refine g_goto (pc := 35) (tgt := 42) C dX11_read_35 (by decide) ?_
    refine g_weak (lv1 := []) [] rfl ?_
    exact s_X11_read_b42 C r5  S4 h
theorem c_X11_read (l : Launch) (b : Bw) (S : St) : Ct l b yX11_read wsX11_read rmX11_read [.ref (bad b 0)] S mkI (f_X11_read S) := Ct.of (by decide +kernel) rfl (Nat.le_of_ble_eq_true rfl) (fun X C hl hb r h => by
  subst hl; subst hb
  exact s_X11_read_b0 C S h)
/-! StyleRows$Rules.clear()I -/
set_option maxRecDepth 100000 in
set_option maxHeartbeats 4000000 in
theorem s_X8_clear_b17 {X : MC} (C : Cx X cX8_clear RX8 wsX8_clear 3 rmX8_clear (some .int)) {rec17 : Int32 × St → Option (Int32 × St)} (v1 : Int32) (v2 : Int32) (hrec17 : ∀ (s : Int32 × St) (r : Int32 × St), rec17 s = some r → G X (QM mkI X r) s.2 17 [(0, .ref (ad X 6)), (1, .int v1), (2, .int (s.1))] []) (S : St) {r0 : Int32 × St} (h : f_X8_clear_b17 rec17 v1 v2 S = some r0) : G X (QM mkI X r0) S 17 [(0, .ref (ad X 6)), (1, .int v1), (2, .int v2)] [] := by
  unfold f_X8_clear_b17 at h
  refine g_iload_n (pc := 17) C dX8_clear_17 rfl 2 rfl ?_
  refine g_aload_n (pc := 18) C dX8_clear_18 rfl 0 rfl ?_
  refine g_get (pc := 19) C 6 (w_6 _ _) rfl 1 (Nat.le_of_ble_eq_true rfl) in_X8_X8_clear k18_X8_clear rfl dX8_clear_19 ?_
  refine g_alen (pc := 22) (v := 52) C 30 1 (w_30 _ _) rfl rfl dX8_clear_22 ?_
  refine g_icmp_ge (pc := 23) (tgt := 39) C h dX8_clear_23 (by decide) (fun h => ?_) (fun h => ?_)
  · refine g_iload_n (pc := 39) C dX8_clear_39 rfl 1 rfl ?_
    exact g_iret (pc := 40) C h dX8_clear_40
  · refine g_aload_n (pc := 26) C dX8_clear_26 rfl 0 rfl ?_
    refine g_get (pc := 27) C 6 (w_6 _ _) rfl 1 (Nat.le_of_ble_eq_true rfl) in_X8_X8_clear k18_X8_clear rfl dX8_clear_27 ?_
    refine g_iload_n (pc := 30) C dX8_clear_30 rfl 2 rfl ?_
    refine g_iconst (pc := 31) (v := (-1)) C dX8_clear_31 (by decide) ?_
    refine g_iast (pc := 32) C 30 (w_30 _ _) (ws_30 _ _) h dX8_clear_32 (fun S4 h => ?_)
    refine g_iinc (pc := 33) (v := v2 + 1) C [(2, .int (v2 + 1)), (0, .ref (ad X 6)), (1, .int v1)] dX8_clear_33 2 rfl rfl (Nat.le_of_ble_eq_true rfl) rfl ?_
    refine g_goto (pc := 36) (tgt := 17) C dX8_clear_36 (by decide) ?_
    refine g_weak (lv1 := [(0, .ref (ad X 6)), (1, .int v1), (2, .int (v2 + 1))]) [1, 2, 0] rfl ?_
    exact hrec17 (v2 + 1, S4) _ h
set_option maxRecDepth 100000 in
set_option maxHeartbeats 4000000 in
theorem s_X8_clear_l17 {X : MC} (C : Cx X cX8_clear RX8 wsX8_clear 3 rmX8_clear (some .int)) (v1 : Int32) : ∀ (n : Nat) (s : Int32 × St) (r : Int32 × St), f_X8_clear_l17 v1 n s = some r → G X (QM mkI X r) s.2 17 [(0, .ref (ad X 6)), (1, .int v1), (2, .int (s.1))] [] :=
  loop_sound (fun rec17 hrec17 s r h => s_X8_clear_b17 C v1 s.1 hrec17 s.2 h)
set_option maxRecDepth 100000 in
set_option maxHeartbeats 4000000 in
theorem s_X8_clear_b0 {X : MC} (C : Cx X cX8_clear RX8 wsX8_clear 3 rmX8_clear (some .int)) (S : St) {r0 : Int32 × St} (h : f_X8_clear_b0 S = some r0) : G X (QM mkI X r0) S 0 [(0, .ref (ad X 6))] [] := by
  unfold f_X8_clear_b0 at h
  refine g_aload_n (pc := 0) C dX8_clear_0 rfl 0 rfl ?_
  refine g_get (pc := 1) C 6 (w_6 _ _) rfl 2 (Nat.le_of_ble_eq_true rfl) in_X8_X8_clear k26_X8_clear rfl dX8_clear_1 ?_
  refine g_leti h (fun x1 h => ?_)
  refine g_istore_n (pc := 4) C [(1, .int x1), (0, .ref (ad X 6))] dX8_clear_4 rfl (Nat.le_of_ble_eq_true rfl) rfl ?_
  refine g_aload_n (pc := 5) C dX8_clear_5 rfl 1 rfl ?_
  refine g_iconst (pc := 6) (v := 0) C dX8_clear_6 (by decide) ?_
  refine g_put (pc := 7) C 6 (w_6 _ _) rfl 2 (Nat.le_of_ble_eq_true rfl) in_X8_X8_clear tyX8_ok nmX8 k26_X8_clear rfl rfl rfl (Nat.le_of_ble_eq_true rfl) (ws_6_2 _ _ _) dX8_clear_7 h (fun S2 h => ?_)
  refine g_aload_n (pc := 10) C dX8_clear_10 rfl 1 rfl ?_
  refine g_iconst (pc := 11) (v := 0) C dX8_clear_11 (by decide) ?_
  refine g_put (pc := 12) C 6 (w_6 _ _) rfl 3 (Nat.le_of_ble_eq_true rfl) in_X8_X8_clear tyX8_ok nmX8 k30_X8_clear rfl rfl rfl (Nat.le_of_ble_eq_true rfl) (ws_6_3 _ _ _) dX8_clear_12 h (fun S3 h => ?_)
  refine g_iconst (pc := 15) (v := 0) C dX8_clear_15 (by decide) ?_
  refine g_istore_n (pc := 16) C [(2, .int 0), (1, .int x1), (0, .ref (ad X 6))] dX8_clear_16 rfl (Nat.le_of_ble_eq_true rfl) rfl ?_
  refine g_weak (lv1 := [(0, .ref (ad X 6)), (1, .int x1), (2, .int 0)]) [2, 1, 0] rfl ?_
  exact s_X8_clear_l17 C x1 _ (0, S3) _ h
theorem c_X8_clear (l : Launch) (b : Bw) (S : St) : Ct l b yX8_clear wsX8_clear rmX8_clear [.ref (bad b 6)] S mkI (f_X8_clear S) := Ct.of (by decide +kernel) rfl (Nat.le_of_ble_eq_true rfl) (fun X C hl hb r h => by
  subst hl; subst hb
  exact s_X8_clear_b0 C S h)
/-! StyleRows.plain()I -/
set_option maxRecDepth 100000 in
set_option maxHeartbeats 4000000 in
theorem s_X11_plain_b0 {X : MC} (C : Cx X cX11_plain RX11 wsX11_plain 1 rmX11_plain (some .int)) (S : St) {r0 : Int32 × St} (h : f_X11_plain_b0 S = some r0) : G X (QM mkI X r0) S 0 [(0, .ref (ad X 0))] [] := by
  unfold f_X11_plain_b0 at h
  refine g_aload_n (pc := 0) C dX11_plain_0 rfl 0 rfl ?_
  refine g_get (pc := 1) C 0 (w_0 _ _) rfl 3 (Nat.le_of_ble_eq_true rfl) in_X11_X11_plain k30_X11_plain rfl dX11_plain_1 ?_
  refine g_callV (pc := 4) C 6 (c_X8_clear (Xl X) (Xb X) S) gX11_plain_X8_clear rfl rfl rfl hd_X8_clear ⟨Nat.le_of_ble_eq_true rfl, Nat.le_of_ble_eq_true rfl⟩ (w_6 _ _) rfl rfl rfl (Nat.le_of_ble_eq_true rfl) dX11_plain_4 h (fun r2 S1 h => ?_)
  change G X _ S1 7 [(0, .ref (ad X 0))] [.int r2]
  exact g_iret (pc := 7) C h dX11_plain_7
theorem c_X11_plain (l : Launch) (b : Bw) (S : St) : Ct l b yX11_plain wsX11_plain rmX11_plain [.ref (bad b 0)] S mkI (f_X11_plain S) := Ct.of (by decide +kernel) rfl (Nat.le_of_ble_eq_true rfl) (fun X C hl hb r h => by
  subst hl; subst hb
  exact s_X11_plain_b0 C S h)
/-! StyleRows$Rules.has(I)Z -/
set_option maxRecDepth 100000 in
set_option maxHeartbeats 4000000 in
theorem s_X8_has_b0 {X : MC} (C : Cx X cX8_has RX8 wsX8_has 2 rmX8_has (some .boolean)) (a1 : Int32) (S : St) {r0 : Int32 × St} (h : f_X8_has_b0 a1 S = some r0) : G X (QM mkI X r0) S 0 [(0, .ref (ad X 6)), (1, .int a1)] [] := by
  unfold f_X8_has_b0 at h
  refine g_iload_n (pc := 0) C dX8_has_0 rfl 1 rfl ?_
  refine g_iconst (pc := 1) (v := 0) C dX8_has_1 (by decide) ?_
  refine g_aload_n (pc := 2) C dX8_has_2 rfl 0 rfl ?_
  refine g_get (pc := 3) C 6 (w_6 _ _) rfl 2 (Nat.le_of_ble_eq_true rfl) in_X8_X8_has k26_X8_has rfl dX8_has_3 ?_
  refine g_iconst (pc := 6) (v := 1) C dX8_has_6 (by decide) ?_
  refine g_isub (pc := 7) C dX8_has_7 ?_
  refine g_callSN (pc := 8) C (c_X11_isWithin (Xl X) (Xb X) a1 0 ((gI S 6) - 1) S) gX8_has_X11_isWithin_n33 rfl rfl rfl nw_X8_33 kiniX11_X8_has kstX11_isWithin_X8_has hd_X11_isWithin ⟨Nat.le_of_ble_eq_true rfl, Nat.le_of_ble_eq_true rfl⟩ rfl rfl (Nat.le_of_ble_eq_true rfl) dX8_has_8 h (fun r2 S1 h => ?_)
  change G X _ S1 11 [(0, .ref (ad X 6)), (1, .int a1)] [.int r2]
  exact g_zret (pc := 11) C h dX8_has_11
theorem c_X8_has (l : Launch) (b : Bw) (a1 : Int32) (S : St) : Ct l b yX8_has wsX8_has rmX8_has [.ref (bad b 6), .int a1] S mkI (f_X8_has a1 S) := Ct.of (by decide +kernel) rfl (Nat.le_of_ble_eq_true rfl) (fun X C hl hb r h => by
  subst hl; subst hb
  exact s_X8_has_b0 C a1 S h)
