/-! StyleRowsModel.in(JJJ)Z -/
set_option maxRecDepth 100000 in
set_option maxHeartbeats 4000000 in
theorem s_X12_in_b18 {X : MC} (C : Cx X cX12_in RX12 wsX12_in 6 rmX12_in (some .boolean)) (w0 : Int32) (S : St) {r0 : Int32 × St} (h : f_X12_in_b18 w0 S = some r0) : G X (QM mkI X r0) S 18 [] [.int w0] := by
  unfold f_X12_in_b18 at h
  exact g_zret (pc := 18) C h dX12_in_18
set_option maxRecDepth 100000 in
set_option maxHeartbeats 4000000 in
theorem s_X12_in_b17 {X : MC} (C : Cx X cX12_in RX12 wsX12_in 6 rmX12_in (some .boolean)) (S : St) {r0 : Int32 × St} (h : f_X12_in_b17 S = some r0) : G X (QM mkI X r0) S 17 [] [] := by
  unfold f_X12_in_b17 at h
  refine g_iconst (pc := 17) (v := 0) C dX12_in_17 (by decide) ?_
  refine g_weak (lv1 := []) [] rfl ?_
  exact s_X12_in_b18 C 0  S h
set_option maxRecDepth 100000 in
set_option maxHeartbeats 4000000 in
theorem s_X12_in_b0 {X : MC} (C : Cx X cX12_in RX12 wsX12_in 6 rmX12_in (some .boolean)) (a1 : Int64) (a2 : Int64) (a3 : Int64) (S : St) {r0 : Int32 × St} (h : f_X12_in_b0 a1 a2 a3 S = some r0) : G X (QM mkI X r0) S 0 [(0, .long a1), (2, .long a2), (4, .long a3)] [] := by
  unfold f_X12_in_b0 at h
  refine g_lload_n (pc := 0) C dX12_in_0 rfl 0 rfl ?_
  refine g_lload_n (pc := 1) C dX12_in_1 rfl 1 rfl ?_
  refine g_lcmp (pc := 2) C dX12_in_2 ?_
  refine g_if_lt (pc := 3) (tgt := 17) C h dX12_in_3 (by decide) (fun h => ?_) (fun h => ?_)
  · refine g_weak (lv1 := []) [] rfl ?_
    exact s_X12_in_b17 C   S h
  · refine g_lload_n (pc := 6) C dX12_in_6 rfl 0 rfl ?_
    refine g_lload (pc := 7) C dX12_in_7 2 rfl ?_
    refine g_lcmp (pc := 9) C dX12_in_9 ?_
    refine g_if_gt (pc := 10) (tgt := 17) C h dX12_in_10 (by decide) (fun h => ?_) (fun h => ?_)
    · refine g_weak (lv1 := []) [] rfl ?_
      exact s_X12_in_b17 C   S h
    · refine g_iconst (pc := 13) (v := 1) C dX12_in_13 (by decide) ?_
      refine g_goto (pc := 14) (tgt := 18) C dX12_in_14 (by decide) ?_
      refine g_weak (lv1 := []) [] rfl ?_
      exact s_X12_in_b18 C 1  S h
theorem c_X12_in (l : Launch) (b : Bw) (a1 : Int64) (a2 : Int64) (a3 : Int64) (S : St) : Ct l b yX12_in wsX12_in rmX12_in [.long a1, .long a2, .long a3] S mkI (f_X12_in a1 a2 a3 S) := Ct.of (by decide +kernel) rfl (Nat.le_of_ble_eq_true rfl) (fun X C hl hb r h => by
  subst hl; subst hb
  exact s_X12_in_b0 C a1 a2 a3 S h)
/-! StyleRowsModel.arc(III)I -/
set_option maxRecDepth 100000 in
set_option maxHeartbeats 4000000 in
theorem s_X12_arc_b30 {X : MC} (C : Cx X cX12_arc RX12 wsX12_arc 5 rmX12_arc (some .int)) (S : St) {r0 : Int32 × St} (h : f_X12_arc_b30 S = some r0) : G X (QM mkI X r0) S 30 [] [] := by
  unfold f_X12_arc_b30 at h
  refine g_sipush (pc := 30) (v := (-1002)) C dX12_arc_30 (by decide) ?_
  exact g_iret (pc := 33) C h dX12_arc_33
set_option maxRecDepth 100000 in
set_option maxHeartbeats 4000000 in
theorem s_X12_arc_b72 {X : MC} (C : Cx X cX12_arc RX12 wsX12_arc 5 rmX12_arc (some .int)) {rec37 : Int32 × St → Option (Int32 × St)} (v1 : Int32) (v2 : Int32) (v3 : Int32) (v4 : Int32) (hrec37 : ∀ (s : Int32 × St) (r : Int32 × St), rec37 s = some r → G X (QM mkI X r) s.2 37 [(0, .ref (ad X 12)), (1, .int v1), (2, .int v2), (3, .int v3), (4, .int (s.1))] []) (S : St) {r0 : Int32 × St} (h : f_X12_arc_b72 rec37 v1 v2 v3 v4 S = some r0) : G X (QM mkI X r0) S 72 [(0, .ref (ad X 12)), (1, .int v1), (2, .int v2), (3, .int v3), (4, .int v4)] [] := by
  unfold f_X12_arc_b72 at h
  refine g_iinc (pc := 72) (v := v4 + 1) C [(4, .int (v4 + 1)), (0, .ref (ad X 12)), (1, .int v1), (2, .int v2), (3, .int v3)] dX12_arc_72 4 rfl rfl (Nat.le_of_ble_eq_true rfl) rfl ?_
  refine g_goto (pc := 75) (tgt := 37) C dX12_arc_75 (by decide) ?_
  refine g_weak (lv1 := [(0, .ref (ad X 12)), (1, .int v1), (2, .int v2), (3, .int v3), (4, .int (v4 + 1))]) [1, 2, 3, 4, 0] rfl ?_
  exact hrec37 (v4 + 1, S) _ h
set_option maxRecDepth 100000 in
set_option maxHeartbeats 4000000 in
theorem s_X12_arc_b37 {X : MC} (C : Cx X cX12_arc RX12 wsX12_arc 5 rmX12_arc (some .int)) {rec37 : Int32 × St → Option (Int32 × St)} (v1 : Int32) (v2 : Int32) (v3 : Int32) (v4 : Int32) (hrec37 : ∀ (s : Int32 × St) (r : Int32 × St), rec37 s = some r → G X (QM mkI X r) s.2 37 [(0, .ref (ad X 12)), (1, .int v1), (2, .int v2), (3, .int v3), (4, .int (s.1))] []) (S : St) {r0 : Int32 × St} (h : f_X12_arc_b37 rec37 v1 v2 v3 v4 S = some r0) : G X (QM mkI X r0) S 37 [(0, .ref (ad X 12)), (1, .int v1), (2, .int v2), (3, .int v3), (4, .int v4)] [] := by
  unfold f_X12_arc_b37 at h
  refine g_iload (pc := 37) C dX12_arc_37 4 rfl ?_
  refine g_aload_n (pc := 39) C dX12_arc_39 rfl 0 rfl ?_
  refine g_get (pc := 40) C 12 (w_12 _ _) rfl 13 (Nat.le_of_ble_eq_true rfl) in_X12_X12_arc k108_X12_arc rfl dX12_arc_40 ?_
  refine g_icmp_ge (pc := 43) (tgt := 78) C h dX12_arc_43 (by decide) (fun h => ?_) (fun h => ?_)
  · refine g_aload_n (pc := 78) C dX12_arc_78 rfl 0 rfl ?_
    refine g_get (pc := 79) C 12 (w_12 _ _) rfl 13 (Nat.le_of_ble_eq_true rfl) in_X12_X12_arc k108_X12_arc rfl dX12_arc_79 ?_
    refine g_bipush (pc := 82) (v := 6) C dX12_arc_82 (by decide) ?_
    refine g_icmp_ne (pc := 84) (tgt := 91) C h dX12_arc_84 (by decide) (fun h => ?_) (fun h => ?_)
    · refine g_aload_n (pc := 91) C dX12_arc_91 rfl 0 rfl ?_
      refine g_get (pc := 92) C 12 (w_12 _ _) rfl 14 (Nat.le_of_ble_eq_true rfl) in_X12_X12_arc k42_X12_arc rfl dX12_arc_92 ?_
      refine g_aload_n (pc := 95) C dX12_arc_95 rfl 0 rfl ?_
      refine g_get (pc := 96) C 12 (w_12 _ _) rfl 13 (Nat.le_of_ble_eq_true rfl) in_X12_X12_arc k108_X12_arc rfl dX12_arc_96 ?_
      refine g_iload_n (pc := 99) C dX12_arc_99 rfl 1 rfl ?_
      refine g_iast (pc := 100) C 57 (w_57 _ _) (ws_57 _ _) h dX12_arc_100 (fun S3 h => ?_)
      refine g_aload_n (pc := 101) C dX12_arc_101 rfl 0 rfl ?_
      refine g_get (pc := 102) C 12 (w_12 _ _) rfl 15 (Nat.le_of_ble_eq_true rfl) in_X12_X12_arc k45_X12_arc rfl dX12_arc_102 ?_
      refine g_aload_n (pc := 105) C dX12_arc_105 rfl 0 rfl ?_
      refine g_get (pc := 106) C 12 (w_12 _ _) rfl 13 (Nat.le_of_ble_eq_true rfl) in_X12_X12_arc k108_X12_arc rfl dX12_arc_106 ?_
      refine g_iload_n (pc := 109) C dX12_arc_109 rfl 2 rfl ?_
      refine g_iast (pc := 110) C 58 (w_58 _ _) (ws_58 _ _) h dX12_arc_110 (fun S4 h => ?_)
      refine g_aload_n (pc := 111) C dX12_arc_111 rfl 0 rfl ?_
      refine g_get (pc := 112) C 12 (w_12 _ _) rfl 16 (Nat.le_of_ble_eq_true rfl) in_X12_X12_arc k48_X12_arc rfl dX12_arc_112 ?_
      refine g_aload_n (pc := 115) C dX12_arc_115 rfl 0 rfl ?_
      refine g_get (pc := 116) C 12 (w_12 _ _) rfl 13 (Nat.le_of_ble_eq_true rfl) in_X12_X12_arc k108_X12_arc rfl dX12_arc_116 ?_
      refine g_iload_n (pc := 119) C dX12_arc_119 rfl 3 rfl ?_
      refine g_iast (pc := 120) C 59 (w_59 _ _) (ws_59 _ _) h dX12_arc_120 (fun S5 h => ?_)
      refine g_aload_n (pc := 121) C dX12_arc_121 rfl 0 rfl ?_
      refine g_dup (pc := 122) C dX12_arc_122 rfl ?_
      refine g_get (pc := 123) C 12 (w_12 _ _) rfl 13 (Nat.le_of_ble_eq_true rfl) in_X12_X12_arc k108_X12_arc rfl dX12_arc_123 ?_
      refine g_iconst (pc := 126) (v := 1) C dX12_arc_126 (by decide) ?_
      refine g_iadd (pc := 127) C dX12_arc_127 ?_
      refine g_put (pc := 128) C 12 (w_12 _ _) rfl 13 (Nat.le_of_ble_eq_true rfl) in_X12_X12_arc tyX12_ok nmX12 k108_X12_arc rfl rfl rfl (Nat.le_of_ble_eq_true rfl) (ws_12_13 _ _ _) dX12_arc_128 h (fun S6 h => ?_)
      refine g_aload_n (pc := 131) C dX12_arc_131 rfl 0 rfl ?_
      refine g_get (pc := 132) C 12 (w_12 _ _) rfl 13 (Nat.le_of_ble_eq_true rfl) in_X12_X12_arc k108_X12_arc rfl dX12_arc_132 ?_
      exact g_iret (pc := 135) C h dX12_arc_135
    · refine g_sipush (pc := 87) (v := (-1004)) C dX12_arc_87 (by decide) ?_
      exact g_iret (pc := 90) C h dX12_arc_90
  · refine g_iload_n (pc := 46) C dX12_arc_46 rfl 1 rfl ?_
    refine g_aload_n (pc := 47) C dX12_arc_47 rfl 0 rfl ?_
    refine g_get (pc := 48) C 12 (w_12 _ _) rfl 15 (Nat.le_of_ble_eq_true rfl) in_X12_X12_arc k45_X12_arc rfl dX12_arc_48 ?_
    refine g_iload (pc := 51) C dX12_arc_51 4 rfl ?_
    refine g_iald (pc := 53) C 58 (w_58 _ _) h dX12_arc_53 (fun h => ?_)
    refine g_icmp_ge (pc := 54) (tgt := 72) C h dX12_arc_54 (by decide) (fun h => ?_) (fun h => ?_)
    · refine g_weak (lv1 := [(0, .ref (ad X 12)), (1, .int v1), (2, .int v2), (3, .int v3), (4, .int v4)]) [0, 1, 2, 3, 4] rfl ?_
      exact s_X12_arc_b72 C v1 v2 v3 v4 hrec37  S h
    · refine g_aload_n (pc := 57) C dX12_arc_57 rfl 0 rfl ?_
      refine g_get (pc := 58) C 12 (w_12 _ _) rfl 14 (Nat.le_of_ble_eq_true rfl) in_X12_X12_arc k42_X12_arc rfl dX12_arc_58 ?_
      refine g_iload (pc := 61) C dX12_arc_61 4 rfl ?_
      refine g_iald (pc := 63) C 57 (w_57 _ _) h dX12_arc_63 (fun h => ?_)
      refine g_iload_n (pc := 64) C dX12_arc_64 rfl 2 rfl ?_
      refine g_icmp_ge (pc := 65) (tgt := 72) C h dX12_arc_65 (by decide) (fun h => ?_) (fun h => ?_)
      · refine g_weak (lv1 := [(0, .ref (ad X 12)), (1, .int v1), (2, .int v2), (3, .int v3), (4, .int v4)]) [0, 1, 2, 3, 4] rfl ?_
        exact s_X12_arc_b72 C v1 v2 v3 v4 hrec37  S h
      · refine g_sipush (pc := 68) (v := (-1003)) C dX12_arc_68 (by decide) ?_
        exact g_iret (pc := 71) C h dX12_arc_71
set_option maxRecDepth 100000 in
set_option maxHeartbeats 4000000 in
theorem s_X12_arc_l37 {X : MC} (C : Cx X cX12_arc RX12 wsX12_arc 5 rmX12_arc (some .int)) (v1 : Int32) (v2 : Int32) (v3 : Int32) : ∀ (n : Nat) (s : Int32 × St) (r : Int32 × St), f_X12_arc_l37 v1 v2 v3 n s = some r → G X (QM mkI X r) s.2 37 [(0, .ref (ad X 12)), (1, .int v1), (2, .int v2), (3, .int v3), (4, .int (s.1))] [] :=
  loop_sound (fun rec37 hrec37 s r h => s_X12_arc_b37 C v1 v2 v3 s.1 hrec37 s.2 h)
set_option maxRecDepth 100000 in
set_option maxHeartbeats 4000000 in
theorem s_X12_arc_b0 {X : MC} (C : Cx X cX12_arc RX12 wsX12_arc 5 rmX12_arc (some .int)) (a1 : Int32) (a2 : Int32) (a3 : Int32) (S : St) {r0 : Int32 × St} (h : f_X12_arc_b0 a1 a2 a3 S = some r0) : G X (QM mkI X r0) S 0 [(0, .ref (ad X 12)), (1, .int a1), (2, .int a2), (3, .int a3)] [] := by
  unfold f_X12_arc_b0 at h
  refine g_iload_n (pc := 0) C dX12_arc_0 rfl 1 rfl ?_
  refine g_if_lt (pc := 1) (tgt := 30) C h dX12_arc_1 (by decide) (fun h => ?_) (fun h => ?_)
  · refine g_weak (lv1 := []) [] rfl ?_
    exact s_X12_arc_b30 C   S h
  · refine g_iload_n (pc := 4) C dX12_arc_4 rfl 2 rfl ?_
    refine g_sipush (pc := 5) (v := 20000) C dX12_arc_5 (by decide) ?_
    refine g_icmp_gt (pc := 8) (tgt := 30) C h dX12_arc_8 (by decide) (fun h => ?_) (fun h => ?_)
    · refine g_weak (lv1 := []) [] rfl ?_
      exact s_X12_arc_b30 C   S h
    · refine g_iload_n (pc := 11) C dX12_arc_11 rfl 1 rfl ?_
      refine g_iload_n (pc := 12) C dX12_arc_12 rfl 2 rfl ?_
      refine g_icmp_ge (pc := 13) (tgt := 30) C h dX12_arc_13 (by decide) (fun h => ?_) (fun h => ?_)
      · refine g_weak (lv1 := []) [] rfl ?_
        exact s_X12_arc_b30 C   S h
      · refine g_iload_n (pc := 16) C dX12_arc_16 rfl 3 rfl ?_
        refine g_i2l (pc := 17) C dX12_arc_17 ?_
        refine g_ldc2 (pc := 18) (v := (-400)) C k104_X12_arc dX12_arc_18 ?_
        refine g_ldc2 (pc := 21) (v := 400) C k106_X12_arc dX12_arc_21 ?_
        refine g_callS (pc := 24) C (c_X12_in (Xl X) (Xb X) (Int32.toInt64 a3) (-400) 400 S) gX12_arc_X12_in rfl rfl rfl hd_X12_in ⟨Nat.le_of_ble_eq_true rfl, Nat.le_of_ble_eq_true rfl⟩ rfl rfl (Nat.le_of_ble_eq_true rfl) dX12_arc_24 h (fun r2 S1 h => ?_)
        change G X _ S1 27 [(0, .ref (ad X 12)), (1, .int a1), (2, .int a2), (3, .int a3)] [.int r2]
        refine g_if_ne (pc := 27) (tgt := 34) C h dX12_arc_27 (by decide) (fun h => ?_) (fun h => ?_)
        · refine g_iconst (pc := 34) (v := 0) C dX12_arc_34 (by decide) ?_
          refine g_istore (pc := 35) C [(4, .int 0), (0, .ref (ad X 12)), (1, .int a1), (2, .int a2), (3, .int a3)] dX12_arc_35 (Nat.le_of_ble_eq_true rfl) rfl ?_
          refine g_weak (lv1 := [(0, .ref (ad X 12)), (1, .int a1), (2, .int a2), (3, .int a3), (4, .int 0)]) [1, 2, 3, 4, 0] rfl ?_
          exact s_X12_arc_l37 C a1 a2 a3 _ (0, S1) _ h
        · refine g_weak (lv1 := []) [] rfl ?_
          exact s_X12_arc_b30 C   S1 h
theorem c_X12_arc (l : Launch) (b : Bw) (a1 : Int32) (a2 : Int32) (a3 : Int32) (S : St) : Ct l b yX12_arc wsX12_arc rmX12_arc [.ref (bad b 12), .int a1, .int a2, .int a3] S mkI (f_X12_arc a1 a2 a3 S) := Ct.of (by decide +kernel) rfl (Nat.le_of_ble_eq_true rfl) (fun X C hl hb r h => by
  subst hl; subst hb
  exact s_X12_arc_b0 C a1 a2 a3 S h)
/-! StyleRowsModel.at(I)I -/
set_option maxRecDepth 100000 in
set_option maxHeartbeats 4000000 in
theorem s_X12_at_b18 {X : MC} (C : Cx X cX12_at RX12 wsX12_at 2 rmX12_at (some .int)) (w0 : Int32) (S : St) {r0 : Int32 × St} (h : f_X12_at_b18 w0 S = some r0) : G X (QM mkI X r0) S 18 [] [.int w0] := by
  unfold f_X12_at_b18 at h
  exact g_iret (pc := 18) C h dX12_at_18
set_option maxRecDepth 100000 in
set_option maxHeartbeats 4000000 in
theorem s_X12_at_b0 {X : MC} (C : Cx X cX12_at RX12 wsX12_at 2 rmX12_at (some .int)) (a1 : Int32) (S : St) {r0 : Int32 × St} (h : f_X12_at_b0 a1 S = some r0) : G X (QM mkI X r0) S 0 [(0, .ref (ad X 12)), (1, .int a1)] [] := by
  unfold f_X12_at_b0 at h
  refine g_iload_n (pc := 0) C dX12_at_0 rfl 1 rfl ?_
  refine g_aload_n (pc := 1) C dX12_at_1 rfl 0 rfl ?_
  refine g_get (pc := 2) C 12 (w_12 _ _) rfl 22 (Nat.le_of_ble_eq_true rfl) in_X12_X12_at k130_X12_at rfl dX12_at_2 ?_
  refine g_icmp_ge (pc := 5) (tgt := 17) C h dX12_at_5 (by decide) (fun h => ?_) (fun h => ?_)
  · refine g_iconst (pc := 17) (v := (-1)) C dX12_at_17 (by decide) ?_
    refine g_weak (lv1 := []) [] rfl ?_
    exact s_X12_at_b18 C (-1)  S h
  · refine g_aload_n (pc := 8) C dX12_at_8 rfl 0 rfl ?_
    refine g_get (pc := 9) C 12 (w_12 _ _) rfl 23 (Nat.le_of_ble_eq_true rfl) in_X12_X12_at k63_X12_at rfl dX12_at_9 ?_
    refine g_iload_n (pc := 12) C dX12_at_12 rfl 1 rfl ?_
    refine g_iald (pc := 13) C 64 (w_64 _ _) h dX12_at_13 (fun h => ?_)
    refine g_goto (pc := 14) (tgt := 18) C dX12_at_14 (by decide) ?_
    refine g_weak (lv1 := []) [] rfl ?_
    exact s_X12_at_b18 C (rd S 64 a1)  S h
theorem c_X12_at (l : Launch) (b : Bw) (a1 : Int32) (S : St) : Ct l b yX12_at wsX12_at rmX12_at [.ref (bad b 12), .int a1] S mkI (f_X12_at a1 S) := Ct.of (by decide +kernel) rfl (Nat.le_of_ble_eq_true rfl) (fun X C hl hb r h => by
  subst hl; subst hb
  exact s_X12_at_b0 C a1 S h)
/-! StyleRowsModel.count(I)I -/
set_option maxRecDepth 100000 in
set_option maxHeartbeats 4000000 in
theorem s_X12_count_b74 {X : MC} (C : Cx X cX12_count RX12 wsX12_count 2 rmX12_count (some .int)) (w0 : Int32) (S : St) {r0 : Int32 × St} (h : f_X12_count_b74 w0 S = some r0) : G X (QM mkI X r0) S 74 [] [.int w0] := by
  unfold f_X12_count_b74 at h
  exact g_iret (pc := 74) C h dX12_count_74
set_option maxRecDepth 100000 in
set_option maxHeartbeats 4000000 in
theorem s_X12_count_b0 {X : MC} (C : Cx X cX12_count RX12 wsX12_count 2 rmX12_count (some .int)) (a1 : Int32) (S : St) {r0 : Int32 × St} (h : f_X12_count_b0 a1 S = some r0) : G X (QM mkI X r0) S 0 [(0, .ref (ad X 12)), (1, .int a1)] [] := by
  unfold f_X12_count_b0 at h
  refine g_iload_n (pc := 0) C dX12_count_0 rfl 1 rfl ?_
  refine g_if_ne (pc := 1) (tgt := 11) C h dX12_count_1 (by decide) (fun h => ?_) (fun h => ?_)
  · refine g_iload_n (pc := 11) C dX12_count_11 rfl 1 rfl ?_
    refine g_iconst (pc := 12) (v := 1) C dX12_count_12 (by decide) ?_
    refine g_icmp_ne (pc := 13) (tgt := 23) C h dX12_count_13 (by decide) (fun h => ?_) (fun h => ?_)
    · refine g_iload_n (pc := 23) C dX12_count_23 rfl 1 rfl ?_
      refine g_iconst (pc := 24) (v := 2) C dX12_count_24 (by decide) ?_
      refine g_icmp_ne (pc := 25) (tgt := 35) C h dX12_count_25 (by decide) (fun h => ?_) (fun h => ?_)
      · refine g_iload_n (pc := 35) C dX12_count_35 rfl 1 rfl ?_
        refine g_iconst (pc := 36) (v := 3) C dX12_count_36 (by decide) ?_
        refine g_icmp_ne (pc := 37) (tgt := 47) C h dX12_count_37 (by decide) (fun h => ?_) (fun h => ?_)
        · refine g_iload_n (pc := 47) C dX12_count_47 rfl 1 rfl ?_
          refine g_iconst (pc := 48) (v := 4) C dX12_count_48 (by decide) ?_
          refine g_icmp_ne (pc := 49) (tgt := 59) C h dX12_count_49 (by decide) (fun h => ?_) (fun h => ?_)
          · refine g_iload_n (pc := 59) C dX12_count_59 rfl 1 rfl ?_
            refine g_iconst (pc := 60) (v := 5) C dX12_count_60 (by decide) ?_
            refine g_icmp_ne (pc := 61) (tgt := 71) C h dX12_count_61 (by decide) (fun h => ?_) (fun h => ?_)
            · refine g_sipush (pc := 71) (v := (-1001)) C dX12_count_71 (by decide) ?_
              refine g_weak (lv1 := []) [] rfl ?_
              exact s_X12_count_b74 C (-1001)  S h
            · refine g_aload_n (pc := 64) C dX12_count_64 rfl 0 rfl ?_
              refine g_get (pc := 65) C 12 (w_12 _ _) rfl 22 (Nat.le_of_ble_eq_true rfl) in_X12_X12_count k130_X12_count rfl dX12_count_65 ?_
              refine g_goto (pc := 68) (tgt := 74) C dX12_count_68 (by decide) ?_
              refine g_weak (lv1 := []) [] rfl ?_
              exact s_X12_count_b74 C (gI S 29)  S h
          · refine g_aload_n (pc := 52) C dX12_count_52 rfl 0 rfl ?_
            refine g_get (pc := 53) C 12 (w_12 _ _) rfl 30 (Nat.le_of_ble_eq_true rfl) in_X12_X12_count k257_X12_count rfl dX12_count_53 ?_
            refine g_goto (pc := 56) (tgt := 74) C dX12_count_56 (by decide) ?_
            refine g_weak (lv1 := []) [] rfl ?_
            exact s_X12_count_b74 C (gI S 34)  S h
        · refine g_aload_n (pc := 40) C dX12_count_40 rfl 0 rfl ?_
          refine g_get (pc := 41) C 12 (w_12 _ _) rfl 17 (Nat.le_of_ble_eq_true rfl) in_X12_X12_count k193_X12_count rfl dX12_count_41 ?_
          refine g_goto (pc := 44) (tgt := 74) C dX12_count_44 (by decide) ?_
          refine g_weak (lv1 := []) [] rfl ?_
          exact s_X12_count_b74 C (gI S 28)  S h
      · refine g_aload_n (pc := 28) C dX12_count_28 rfl 0 rfl ?_
        refine g_get (pc := 29) C 12 (w_12 _ _) rfl 13 (Nat.le_of_ble_eq_true rfl) in_X12_X12_count k108_X12_count rfl dX12_count_29 ?_
        refine g_goto (pc := 32) (tgt := 74) C dX12_count_32 (by decide) ?_
        refine g_weak (lv1 := []) [] rfl ?_
        exact s_X12_count_b74 C (gI S 27)  S h
    · refine g_aload_n (pc := 16) C dX12_count_16 rfl 0 rfl ?_
      refine g_get (pc := 17) C 12 (w_12 _ _) rfl 7 (Nat.le_of_ble_eq_true rfl) in_X12_X12_count k101_X12_count rfl dX12_count_17 ?_
      refine g_goto (pc := 20) (tgt := 74) C dX12_count_20 (by decide) ?_
      refine g_weak (lv1 := []) [] rfl ?_
      exact s_X12_count_b74 C (gI S 24)  S h
  · refine g_aload_n (pc := 4) C dX12_count_4 rfl 0 rfl ?_
    refine g_get (pc := 5) C 12 (w_12 _ _) rfl 1 (Nat.le_of_ble_eq_true rfl) in_X12_X12_count k92_X12_count rfl dX12_count_5 ?_
    refine g_goto (pc := 8) (tgt := 74) C dX12_count_8 (by decide) ?_
    refine g_weak (lv1 := []) [] rfl ?_
    exact s_X12_count_b74 C (gI S 23)  S h
theorem c_X12_count (l : Launch) (b : Bw) (a1 : Int32) (S : St) : Ct l b yX12_count wsX12_count rmX12_count [.ref (bad b 12), .int a1] S mkI (f_X12_count a1 S) := Ct.of (by decide +kernel) rfl (Nat.le_of_ble_eq_true rfl) (fun X C hl hb r h => by
  subst hl; subst hb
  exact s_X12_count_b0 C a1 S h)
/-! StyleRowsModel.counts(II)I -/
set_option maxRecDepth 100000 in
set_option maxHeartbeats 4000000 in
theorem s_X12_counts_b86 {X : MC} (C : Cx X cX12_counts RX12 wsX12_counts 6 rmX12_counts (some .int)) {rec5 : Int32 × Int32 × St → Option (Int32 × St)} (v1 : Int32) (v2 : Int32) (v4 : Int32) (w0 : Int32) (hrec5 : ∀ (s : Int32 × Int32 × St) (r : Int32 × St), rec5 s = some r → G X (QM mkI X r) s.2.2 5 [(0, .ref (ad X 12)), (1, .int v1), (2, .int v2), (3, .int (s.1)), (4, .int (s.2.1))] []) (S : St) {r0 : Int32 × St} (h : f_X12_counts_b86 rec5 v1 v2 v4 w0 S = some r0) : G X (QM mkI X r0) S 86 [(0, .ref (ad X 12)), (1, .int v1), (2, .int v2), (4, .int v4)] [.int w0] := by
  unfold f_X12_counts_b86 at h
  refine g_istore_n (pc := 86) C [(3, .int w0), (0, .ref (ad X 12)), (1, .int v1), (2, .int v2), (4, .int v4)] dX12_counts_86 rfl (Nat.le_of_ble_eq_true rfl) rfl ?_
  refine g_iinc (pc := 87) (v := v4 + 1) C [(4, .int (v4 + 1)), (3, .int w0), (0, .ref (ad X 12)), (1, .int v1), (2, .int v2)] dX12_counts_87 4 rfl rfl (Nat.le_of_ble_eq_true rfl) rfl ?_
  refine g_goto (pc := 90) (tgt := 5) C dX12_counts_90 (by decide) ?_
  refine g_weak (lv1 := [(0, .ref (ad X 12)), (1, .int v1), (2, .int v2), (3, .int w0), (4, .int (v4 + 1))]) [2, 3, 4, 1, 0] rfl ?_
  exact hrec5 (w0, v4 + 1, S) _ h
set_option maxRecDepth 100000 in
set_option maxHeartbeats 4000000 in
theorem s_X12_counts_b85 {X : MC} (C : Cx X cX12_counts RX12 wsX12_counts 6 rmX12_counts (some .int)) {rec5 : Int32 × Int32 × St → Option (Int32 × St)} (v1 : Int32) (v2 : Int32) (v3 : Int32) (v4 : Int32) (hrec5 : ∀ (s : Int32 × Int32 × St) (r : Int32 × St), rec5 s = some r → G X (QM mkI X r) s.2.2 5 [(0, .ref (ad X 12)), (1, .int v1), (2, .int v2), (3, .int (s.1)), (4, .int (s.2.1))] []) (S : St) {r0 : Int32 × St} (h : f_X12_counts_b85 rec5 v1 v2 v3 v4 S = some r0) : G X (QM mkI X r0) S 85 [(0, .ref (ad X 12)), (1, .int v1), (2, .int v2), (3, .int v3), (4, .int v4)] [] := by
  unfold f_X12_counts_b85 at h
  refine g_iload_n (pc := 85) C dX12_counts_85 rfl 3 rfl ?_
  refine g_weak (lv1 := [(0, .ref (ad X 12)), (1, .int v1), (2, .int v2), (4, .int v4)]) [0, 1, 2, 4] rfl ?_
  exact s_X12_counts_b86 C v1 v2 v4 v3 hrec5  S h
set_option maxRecDepth 100000 in
set_option maxHeartbeats 4000000 in
theorem s_X12_counts_b80 {X : MC} (C : Cx X cX12_counts RX12 wsX12_counts 6 rmX12_counts (some .int)) {rec5 : Int32 × Int32 × St → Option (Int32 × St)} (v1 : Int32) (v2 : Int32) (v4 : Int32) (hrec5 : ∀ (s : Int32 × Int32 × St) (r : Int32 × St), rec5 s = some r → G X (QM mkI X r) s.2.2 5 [(0, .ref (ad X 12)), (1, .int v1), (2, .int v2), (3, .int (s.1)), (4, .int (s.2.1))] []) (S : St) {r0 : Int32 × St} (h : f_X12_counts_b80 rec5 v1 v2 v4 S = some r0) : G X (QM mkI X r0) S 80 [(0, .ref (ad X 12)), (1, .int v1), (2, .int v2), (4, .int v4)] [] := by
  unfold f_X12_counts_b80 at h
  refine g_iload (pc := 80) C dX12_counts_80 3 rfl ?_
  refine g_goto (pc := 82) (tgt := 86) C dX12_counts_82 (by decide) ?_
  refine g_weak (lv1 := [(0, .ref (ad X 12)), (1, .int v1), (2, .int v2), (4, .int v4)]) [0, 1, 2, 3] rfl ?_
  exact s_X12_counts_b86 C v1 v2 v4 v4 hrec5  S h
set_option maxRecDepth 100000 in
set_option maxHeartbeats 4000000 in
theorem s_X12_counts_b52 {X : MC} (C : Cx X cX12_counts RX12 wsX12_counts 6 rmX12_counts (some .int)) {rec5 : Int32 × Int32 × St → Option (Int32 × St)} (v1 : Int32) (v2 : Int32) (v3 : Int32) (v4 : Int32) (w0 : Int32) (hrec5 : ∀ (s : Int32 × Int32 × St) (r : Int32 × St), rec5 s = some r → G X (QM mkI X r) s.2.2 5 [(0, .ref (ad X 12)), (1, .int v1), (2, .int v2), (3, .int (s.1)), (4, .int (s.2.1))] []) (S : St) {r0 : Int32 × St} (h : f_X12_counts_b52 rec5 v1 v2 v3 v4 w0 S = some r0) : G X (QM mkI X r0) S 52 [(0, .ref (ad X 12)), (1, .int v1), (2, .int v2), (3, .int v3), (4, .int v4)] [.int w0] := by
  unfold f_X12_counts_b52 at h
  refine g_istore (pc := 52) C [(5, .int w0), (0, .ref (ad X 12)), (1, .int v1), (2, .int v2), (3, .int v3), (4, .int v4)] dX12_counts_52 (Nat.le_of_ble_eq_true rfl) rfl ?_
  refine g_iload (pc := 54) C dX12_counts_54 0 rfl ?_
  refine g_if_eq (pc := 56) (tgt := 85) C h dX12_counts_56 (by decide) (fun h => ?_) (fun h => ?_)
  · refine g_weak (lv1 := [(0, .ref (ad X 12)), (1, .int v1), (2, .int v2), (3, .int v3), (4, .int v4)]) [1, 2, 3, 4, 5] rfl ?_
    exact s_X12_counts_b85 C v1 v2 v3 v4 hrec5  S h
  · refine g_iload_n (pc := 59) C dX12_counts_59 rfl 4 rfl ?_
    refine g_iconst (pc := 60) (v := (-1)) C dX12_counts_60 (by decide) ?_
    refine g_icmp_eq (pc := 61) (tgt := 80) C h dX12_counts_61 (by decide) (fun h => ?_) (fun h => ?_)
    · refine g_weak (lv1 := [(0, .ref (ad X 12)), (1, .int v1), (2, .int v2), (4, .int v4)]) [1, 2, 3, 5] rfl ?_
      exact s_X12_counts_b80 C v1 v2 v4 hrec5  S h
    · refine g_aload_n (pc := 64) C dX12_counts_64 rfl 1 rfl ?_
      refine g_get (pc := 65) C 12 (w_12 _ _) rfl 21 (Nat.le_of_ble_eq_true rfl) in_X12_X12_counts k60_X12_counts rfl dX12_counts_65 ?_
      refine g_iload (pc := 68) C dX12_counts_68 5 rfl ?_
      refine g_iald (pc := 70) C 63 (w_63 _ _) h dX12_counts_70 (fun h => ?_)
      refine g_aload_n (pc := 71) C dX12_counts_71 rfl 1 rfl ?_
      refine g_get (pc := 72) C 12 (w_12 _ _) rfl 21 (Nat.le_of_ble_eq_true rfl) in_X12_X12_counts k60_X12_counts rfl dX12_counts_72 ?_
      refine g_iload_n (pc := 75) C dX12_counts_75 rfl 4 rfl ?_
      refine g_iald (pc := 76) C 63 (w_63 _ _) h dX12_counts_76 (fun h => ?_)
      refine g_icmp_lt (pc := 77) (tgt := 85) C h dX12_counts_77 (by decide) (fun h => ?_) (fun h => ?_)
      · refine g_weak (lv1 := [(0, .ref (ad X 12)), (1, .int v1), (2, .int v2), (3, .int v3), (4, .int v4)]) [1, 2, 3, 4, 5] rfl ?_
        exact s_X12_counts_b85 C v1 v2 v3 v4 hrec5  S h
      · refine g_weak (lv1 := [(0, .ref (ad X 12)), (1, .int v1), (2, .int v2), (4, .int v4)]) [1, 2, 3, 5] rfl ?_
        exact s_X12_counts_b80 C v1 v2 v4 hrec5  S h
set_option maxRecDepth 100000 in
set_option maxHeartbeats 4000000 in
theorem s_X12_counts_b51 {X : MC} (C : Cx X cX12_counts RX12 wsX12_counts 6 rmX12_counts (some .int)) {rec5 : Int32 × Int32 × St → Option (Int32 × St)} (v1 : Int32) (v2 : Int32) (v3 : Int32) (v4 : Int32) (hrec5 : ∀ (s : Int32 × Int32 × St) (r : Int32 × St), rec5 s = some r → G X (QM mkI X r) s.2.2 5 [(0, .ref (ad X 12)), (1, .int v1), (2, .int v2), (3, .int (s.1)), (4, .int (s.2.1))] []) (S : St) {r0 : Int32 × St} (h : f_X12_counts_b51 rec5 v1 v2 v3 v4 S = some r0) : G X (QM mkI X r0) S 51 [(0, .ref (ad X 12)), (1, .int v1), (2, .int v2), (3, .int v3), (4, .int v4)] [] := by
  unfold f_X12_counts_b51 at h
  refine g_iconst (pc := 51) (v := 0) C dX12_counts_51 (by decide) ?_
  refine g_weak (lv1 := [(0, .ref (ad X 12)), (1, .int v1), (2, .int v2), (3, .int v3), (4, .int v4)]) [0, 1, 2, 3, 4] rfl ?_
  exact s_X12_counts_b52 C v1 v2 v3 v4 0 hrec5  S h
set_option maxRecDepth 100000 in
set_option maxHeartbeats 4000000 in
theorem s_X12_counts_b47 {X : MC} (C : Cx X cX12_counts RX12 wsX12_counts 6 rmX12_counts (some .int)) {rec5 : Int32 × Int32 × St → Option (Int32 × St)} (v1 : Int32) (v2 : Int32) (v3 : Int32) (v4 : Int32) (hrec5 : ∀ (s : Int32 × Int32 × St) (r : Int32 × St), rec5 s = some r → G X (QM mkI X r) s.2.2 5 [(0, .ref (ad X 12)), (1, .int v1), (2, .int v2), (3, .int (s.1)), (4, .int (s.2.1))] []) (S : St) {r0 : Int32 × St} (h : f_X12_counts_b47 rec5 v1 v2 v3 v4 S = some r0) : G X (QM mkI X r0) S 47 [(0, .ref (ad X 12)), (1, .int v1), (2, .int v2), (3, .int v3), (4, .int v4)] [] := by
  unfold f_X12_counts_b47 at h
  refine g_iconst (pc := 47) (v := 1) C dX12_counts_47 (by decide) ?_
  refine g_goto (pc := 48) (tgt := 52) C dX12_counts_48 (by decide) ?_
  refine g_weak (lv1 := [(0, .ref (ad X 12)), (1, .int v1), (2, .int v2), (3, .int v3), (4, .int v4)]) [0, 1, 2, 3, 4] rfl ?_
  exact s_X12_counts_b52 C v1 v2 v3 v4 1 hrec5  S h
set_option maxRecDepth 100000 in
set_option maxHeartbeats 4000000 in
theorem s_X12_counts_b5 {X : MC} (C : Cx X cX12_counts RX12 wsX12_counts 6 rmX12_counts (some .int)) {rec5 : Int32 × Int32 × St → Option (Int32 × St)} (v1 : Int32) (v2 : Int32) (v3 : Int32) (v4 : Int32) (hrec5 : ∀ (s : Int32 × Int32 × St) (r : Int32 × St), rec5 s = some r → G X (QM mkI X r) s.2.2 5 [(0, .ref (ad X 12)), (1, .int v1), (2, .int v2), (3, .int (s.1)), (4, .int (s.2.1))] []) (S : St) {r0 : Int32 × St} (h : f_X12_counts_b5 rec5 v1 v2 v3 v4 S = some r0) : G X (QM mkI X r0) S 5 [(0, .ref (ad X 12)), (1, .int v1), (2, .int v2), (3, .int v3), (4, .int v4)] [] := by
  unfold f_X12_counts_b5 at h
  refine g_iload (pc := 5) C dX12_counts_5 4 rfl ?_
  refine g_aload_n (pc := 7) C dX12_counts_7 rfl 0 rfl ?_
  refine g_get (pc := 8) C 12 (w_12 _ _) rfl 17 (Nat.le_of_ble_eq_true rfl) in_X12_X12_counts k193_X12_counts rfl dX12_counts_8 ?_
  refine g_icmp_ge (pc := 11) (tgt := 93) C h dX12_counts_11 (by decide) (fun h => ?_) (fun h => ?_)
  · refine g_iload_n (pc := 93) C dX12_counts_93 rfl 3 rfl ?_
    exact g_iret (pc := 94) C h dX12_counts_94
  · refine g_aload_n (pc := 14) C dX12_counts_14 rfl 0 rfl ?_
    refine g_get (pc := 15) C 12 (w_12 _ _) rfl 19 (Nat.le_of_ble_eq_true rfl) in_X12_X12_counts k54_X12_counts rfl dX12_counts_15 ?_
    refine g_iload (pc := 18) C dX12_counts_18 4 rfl ?_
    refine g_iald (pc := 20) C 61 (w_61 _ _) h dX12_counts_20 (fun h => ?_)
    refine g_iload_n (pc := 21) C dX12_counts_21 rfl 2 rfl ?_
    refine g_icmp_ne (pc := 22) (tgt := 51) C h dX12_counts_22 (by decide) (fun h => ?_) (fun h => ?_)
    · refine g_weak (lv1 := [(0, .ref (ad X 12)), (1, .int v1), (2, .int v2), (3, .int v3), (4, .int v4)]) [0, 1, 2, 3, 4] rfl ?_
      exact s_X12_counts_b51 C v1 v2 v3 v4 hrec5  S h
    · refine g_aload_n (pc := 25) C dX12_counts_25 rfl 0 rfl ?_
      refine g_get (pc := 26) C 12 (w_12 _ _) rfl 18 (Nat.le_of_ble_eq_true rfl) in_X12_X12_counts k51_X12_counts rfl dX12_counts_26 ?_
      refine g_iload (pc := 29) C dX12_counts_29 4 rfl ?_
      refine g_iald (pc := 31) C 60 (w_60 _ _) h dX12_counts_31 (fun h => ?_)
      refine g_iconst (pc := 32) (v := (-1)) C dX12_counts_32 (by decide) ?_
      refine g_icmp_eq (pc := 33) (tgt := 47) C h dX12_counts_33 (by decide) (fun h => ?_) (fun h => ?_)
      · refine g_weak (lv1 := [(0, .ref (ad X 12)), (1, .int v1), (2, .int v2), (3, .int v3), (4, .int v4)]) [0, 1, 2, 3, 4] rfl ?_
        exact s_X12_counts_b47 C v1 v2 v3 v4 hrec5  S h
      · refine g_aload_n (pc := 36) C dX12_counts_36 rfl 0 rfl ?_
        refine g_get (pc := 37) C 12 (w_12 _ _) rfl 18 (Nat.le_of_ble_eq_true rfl) in_X12_X12_counts k51_X12_counts rfl dX12_counts_37 ?_
        refine g_iload (pc := 40) C dX12_counts_40 4 rfl ?_
        refine g_iald (pc := 42) C 60 (w_60 _ _) h dX12_counts_42 (fun h => ?_)
        refine g_iload_n (pc := 43) C dX12_counts_43 rfl 1 rfl ?_
        refine g_icmp_ne (pc := 44) (tgt := 51) C h dX12_counts_44 (by decide) (fun h => ?_) (fun h => ?_)
        · refine g_weak (lv1 := [(0, .ref (ad X 12)), (1, .int v1), (2, .int v2), (3, .int v3), (4, .int v4)]) [0, 1, 2, 3, 4] rfl ?_
          exact s_X12_counts_b51 C v1 v2 v3 v4 hrec5  S h
        · refine g_weak (lv1 := [(0, .ref (ad X 12)), (1, .int v1), (2, .int v2), (3, .int v3), (4, .int v4)]) [0, 1, 2, 3, 4] rfl ?_
          exact s_X12_counts_b47 C v1 v2 v3 v4 hrec5  S h
set_option maxRecDepth 100000 in
set_option maxHeartbeats 4000000 in
theorem s_X12_counts_l5 {X : MC} (C : Cx X cX12_counts RX12 wsX12_counts 6 rmX12_counts (some .int)) (v1 : Int32) (v2 : Int32) : ∀ (n : Nat) (s : Int32 × Int32 × St) (r : Int32 × St), f_X12_counts_l5 v1 v2 n s = some r → G X (QM mkI X r) s.2.2 5 [(0, .ref (ad X 12)), (1, .int v1), (2, .int v2), (3, .int (s.1)), (4, .int (s.2.1))] [] :=
  loop_sound (fun rec5 hrec5 s r h => s_X12_counts_b5 C v1 v2 s.1 s.2.1 hrec5 s.2.2 h)
set_option maxRecDepth 100000 in
set_option maxHeartbeats 4000000 in
theorem s_X12_counts_b0 {X : MC} (C : Cx X cX12_counts RX12 wsX12_counts 6 rmX12_counts (some .int)) (a1 : Int32) (a2 : Int32) (S : St) {r0 : Int32 × St} (h : f_X12_counts_b0 a1 a2 S = some r0) : G X (QM mkI X r0) S 0 [(0, .ref (ad X 12)), (1, .int a1), (2, .int a2)] [] := by
  unfold f_X12_counts_b0 at h
  refine g_iconst (pc := 0) (v := (-1)) C dX12_counts_0 (by decide) ?_
  refine g_istore_n (pc := 1) C [(3, .int (-1)), (0, .ref (ad X 12)), (1, .int a1), (2, .int a2)] dX12_counts_1 rfl (Nat.le_of_ble_eq_true rfl) rfl ?_
  refine g_iconst (pc := 2) (v := 0) C dX12_counts_2 (by decide) ?_
  refine g_istore (pc := 3) C [(4, .int 0), (3, .int (-1)), (0, .ref (ad X 12)), (1, .int a1), (2, .int a2)] dX12_counts_3 (Nat.le_of_ble_eq_true rfl) rfl ?_
  refine g_weak (lv1 := [(0, .ref (ad X 12)), (1, .int a1), (2, .int a2), (3, .int (-1)), (4, .int 0)]) [2, 3, 4, 1, 0] rfl ?_
  exact s_X12_counts_l5 C a1 a2 _ ((-1), 0, S) _ h
theorem c_X12_counts (l : Launch) (b : Bw) (a1 : Int32) (a2 : Int32) (S : St) : Ct l b yX12_counts wsX12_counts rmX12_counts [.ref (bad b 12), .int a1, .int a2] S mkI (f_X12_counts a1 a2 S) := Ct.of (by decide +kernel) rfl (Nat.le_of_ble_eq_true rfl) (fun X C hl hb r h => by
  subst hl; subst hb
  exact s_X12_counts_b0 C a1 a2 S h)
/-! StyleRowsModel.cut(I)I -/
set_option maxRecDepth 100000 in
set_option maxHeartbeats 4000000 in
theorem s_X12_cut_b144 {X : MC} (C : Cx X cX12_cut RX12 wsX12_cut 7 rmX12_cut (some .int)) {rec29 : Int32 × Int32 × St → Option (Int32 × St)} (v1 : Int32) (v2 : Int32) (v4 : Int32) (w0 : Int32) (hrec29 : ∀ (s : Int32 × Int32 × St) (r : Int32 × St), rec29 s = some r → G X (QM mkI X r) s.2.2 29 [(0, .ref (ad X 12)), (1, .int v1), (2, .int v2), (3, .int (s.1)), (4, .int (s.2.1))] []) (S : St) {r0 : Int32 × St} (h : f_X12_cut_b144 rec29 v1 v2 v4 w0 S = some r0) : G X (QM mkI X r0) S 144 [(0, .ref (ad X 12)), (1, .int v1), (2, .int v2), (4, .int v4)] [.int w0] := by
  unfold f_X12_cut_b144 at h
  refine g_istore_n (pc := 144) C [(3, .int w0), (0, .ref (ad X 12)), (1, .int v1), (2, .int v2), (4, .int v4)] dX12_cut_144 rfl (Nat.le_of_ble_eq_true rfl) rfl ?_
  refine g_iinc (pc := 145) (v := v4 + 1) C [(4, .int (v4 + 1)), (3, .int w0), (0, .ref (ad X 12)), (1, .int v1), (2, .int v2)] dX12_cut_145 4 rfl rfl (Nat.le_of_ble_eq_true rfl) rfl ?_
  refine g_goto (pc := 148) (tgt := 29) C dX12_cut_148 (by decide) ?_
  refine g_weak (lv1 := [(0, .ref (ad X 12)), (1, .int v1), (2, .int v2), (3, .int w0), (4, .int (v4 + 1))]) [2, 3, 4, 1, 0] rfl ?_
  exact hrec29 (w0, v4 + 1, S) _ h
set_option maxRecDepth 100000 in
set_option maxHeartbeats 4000000 in
theorem s_X12_cut_b143 {X : MC} (C : Cx X cX12_cut RX12 wsX12_cut 7 rmX12_cut (some .int)) {rec29 : Int32 × Int32 × St → Option (Int32 × St)} (v1 : Int32) (v2 : Int32) (v3 : Int32) (v4 : Int32) (hrec29 : ∀ (s : Int32 × Int32 × St) (r : Int32 × St), rec29 s = some r → G X (QM mkI X r) s.2.2 29 [(0, .ref (ad X 12)), (1, .int v1), (2, .int v2), (3, .int (s.1)), (4, .int (s.2.1))] []) (S : St) {r0 : Int32 × St} (h : f_X12_cut_b143 rec29 v1 v2 v3 v4 S = some r0) : G X (QM mkI X r0) S 143 [(0, .ref (ad X 12)), (1, .int v1), (2, .int v2), (3, .int v3), (4, .int v4)] [] := by
  unfold f_X12_cut_b143 at h
  refine g_iload_n (pc := 143) C dX12_cut_143 rfl 3 rfl ?_
  refine g_weak (lv1 := [(0, .ref (ad X 12)), (1, .int v1), (2, .int v2), (4, .int v4)]) [0, 1, 2, 4] rfl ?_
  exact s_X12_cut_b144 C v1 v2 v4 v3 hrec29  S h
set_option maxRecDepth 100000 in
set_option maxHeartbeats 4000000 in
theorem s_X12_cut_b105 {X : MC} (C : Cx X cX12_cut RX12 wsX12_cut 7 rmX12_cut (some .int)) {rec29 : Int32 × Int32 × St → Option (Int32 × St)} (v1 : Int32) (v2 : Int32) (v3 : Int32) (v4 : Int32) (w0 : Int32) (hrec29 : ∀ (s : Int32 × Int32 × St) (r : Int32 × St), rec29 s = some r → G X (QM mkI X r) s.2.2 29 [(0, .ref (ad X 12)), (1, .int v1), (2, .int v2), (3, .int (s.1)), (4, .int (s.2.1))] []) (S : St) {r0 : Int32 × St} (h : f_X12_cut_b105 rec29 v1 v2 v3 v4 w0 S = some r0) : G X (QM mkI X r0) S 105 [(0, .ref (ad X 12)), (1, .int v1), (2, .int v2), (3, .int v3), (4, .int v4)] [.int w0] := by
  unfold f_X12_cut_b105 at h
  refine g_istore (pc := 105) C [(5, .int w0), (0, .ref (ad X 12)), (1, .int v1), (2, .int v2), (3, .int v3), (4, .int v4)] dX12_cut_105 (Nat.le_of_ble_eq_true rfl) rfl ?_
  refine g_aload_n (pc := 107) C dX12_cut_107 rfl 1 rfl ?_
  refine g_get (pc := 108) C 12 (w_12 _ _) rfl 29 (Nat.le_of_ble_eq_true rfl) in_X12_X12_cut k66_X12_cut rfl dX12_cut_108 ?_
  refine g_bipush (pc := 111) (v := 6) C dX12_cut_111 (by decide) ?_
  refine g_iload (pc := 113) C dX12_cut_113 5 rfl ?_
  refine g_imul (pc := 115) C dX12_cut_115 ?_
  refine g_iconst (pc := 116) (v := 0) C dX12_cut_116 (by decide) ?_
  refine g_iadd (pc := 117) C dX12_cut_117 ?_
  refine g_iald (pc := 118) C 65 (w_65 _ _) h dX12_cut_118 (fun h => ?_)
  refine g_leti h (fun x3 h => ?_)
  refine g_istore (pc := 119) C [(6, .int x3), (5, .int w0), (0, .ref (ad X 12)), (1, .int v1), (2, .int v2), (3, .int v3), (4, .int v4)] dX12_cut_119 (Nat.le_of_ble_eq_true rfl) rfl ?_
  refine g_iload (pc := 121) C dX12_cut_121 1 rfl ?_
  refine g_if_eq (pc := 123) (tgt := 143) C h dX12_cut_123 (by decide) (fun h => ?_) (fun h => ?_)
  · refine g_weak (lv1 := [(0, .ref (ad X 12)), (1, .int v1), (2, .int v2), (3, .int v3), (4, .int v4)]) [2, 3, 4, 5, 6] rfl ?_
    exact s_X12_cut_b143 C v1 v2 v3 v4 hrec29  S h
  · refine g_iload (pc := 126) C dX12_cut_126 0 rfl ?_
    refine g_iload_n (pc := 128) C dX12_cut_128 rfl 4 rfl ?_
    refine g_icmp_le (pc := 129) (tgt := 143) C h dX12_cut_129 (by decide) (fun h => ?_) (fun h => ?_)
    · refine g_weak (lv1 := [(0, .ref (ad X 12)), (1, .int v1), (2, .int v2), (3, .int v3), (4, .int v4)]) [2, 3, 4, 5, 6] rfl ?_
      exact s_X12_cut_b143 C v1 v2 v3 v4 hrec29  S h
    · refine g_iload (pc := 132) C dX12_cut_132 0 rfl ?_
      refine g_iload_n (pc := 134) C dX12_cut_134 rfl 5 rfl ?_
      refine g_icmp_ge (pc := 135) (tgt := 143) C h dX12_cut_135 (by decide) (fun h => ?_) (fun h => ?_)
      · refine g_weak (lv1 := [(0, .ref (ad X 12)), (1, .int v1), (2, .int v2), (3, .int v3), (4, .int v4)]) [2, 3, 4, 5, 6] rfl ?_
        exact s_X12_cut_b143 C v1 v2 v3 v4 hrec29  S h
      · refine g_iload (pc := 138) C dX12_cut_138 0 rfl ?_
        refine g_goto (pc := 140) (tgt := 144) C dX12_cut_140 (by decide) ?_
        refine g_weak (lv1 := [(0, .ref (ad X 12)), (1, .int v1), (2, .int v2), (4, .int v4)]) [2, 3, 4, 6] rfl ?_
        exact s_X12_cut_b144 C v1 v2 v4 x3 hrec29  S h
set_option maxRecDepth 100000 in
set_option maxHeartbeats 4000000 in
theorem s_X12_cut_b104 {X : MC} (C : Cx X cX12_cut RX12 wsX12_cut 7 rmX12_cut (some .int)) {rec29 : Int32 × Int32 × St → Option (Int32 × St)} (v1 : Int32) (v2 : Int32) (v3 : Int32) (v4 : Int32) (hrec29 : ∀ (s : Int32 × Int32 × St) (r : Int32 × St), rec29 s = some r → G X (QM mkI X r) s.2.2 29 [(0, .ref (ad X 12)), (1, .int v1), (2, .int v2), (3, .int (s.1)), (4, .int (s.2.1))] []) (S : St) {r0 : Int32 × St} (h : f_X12_cut_b104 rec29 v1 v2 v3 v4 S = some r0) : G X (QM mkI X r0) S 104 [(0, .ref (ad X 12)), (1, .int v1), (2, .int v2), (3, .int v3), (4, .int v4)] [] := by
  unfold f_X12_cut_b104 at h
  refine g_iconst (pc := 104) (v := 0) C dX12_cut_104 (by decide) ?_
  refine g_weak (lv1 := [(0, .ref (ad X 12)), (1, .int v1), (2, .int v2), (3, .int v3), (4, .int v4)]) [0, 1, 2, 3, 4] rfl ?_
  exact s_X12_cut_b105 C v1 v2 v3 v4 0 hrec29  S h
set_option maxRecDepth 100000 in
set_option maxHeartbeats 4000000 in
theorem s_X12_cut_b29 {X : MC} (C : Cx X cX12_cut RX12 wsX12_cut 7 rmX12_cut (some .int)) {rec29 : Int32 × Int32 × St → Option (Int32 × St)} (v1 : Int32) (v2 : Int32) (v3 : Int32) (v4 : Int32) (hrec29 : ∀ (s : Int32 × Int32 × St) (r : Int32 × St), rec29 s = some r → G X (QM mkI X r) s.2.2 29 [(0, .ref (ad X 12)), (1, .int v1), (2, .int v2), (3, .int (s.1)), (4, .int (s.2.1))] []) (S : St) {r0 : Int32 × St} (h : f_X12_cut_b29 rec29 v1 v2 v3 v4 S = some r0) : G X (QM mkI X r0) S 29 [(0, .ref (ad X 12)), (1, .int v1), (2, .int v2), (3, .int v3), (4, .int v4)] [] := by
  unfold f_X12_cut_b29 at h
  refine g_iload (pc := 29) C dX12_cut_29 4 rfl ?_
  refine g_aload_n (pc := 31) C dX12_cut_31 rfl 0 rfl ?_
  refine g_get (pc := 32) C 12 (w_12 _ _) rfl 28 (Nat.le_of_ble_eq_true rfl) in_X12_X12_cut k209_X12_cut rfl dX12_cut_32 ?_
  refine g_icmp_ge (pc := 35) (tgt := 151) C h dX12_cut_35 (by decide) (fun h => ?_) (fun h => ?_)
  · refine g_iload_n (pc := 151) C dX12_cut_151 rfl 3 rfl ?_
    refine g_iload_n (pc := 152) C dX12_cut_152 rfl 2 rfl ?_
    refine g_isub (pc := 153) C dX12_cut_153 ?_
    exact g_iret (pc := 154) C h dX12_cut_154
  · refine g_aload_n (pc := 38) C dX12_cut_38 rfl 0 rfl ?_
    refine g_get (pc := 39) C 12 (w_12 _ _) rfl 2 (Nat.le_of_ble_eq_true rfl) in_X12_X12_cut k7_X12_cut rfl dX12_cut_39 ?_
    refine g_aload_n (pc := 42) C dX12_cut_42 rfl 0 rfl ?_
    refine g_get (pc := 43) C 12 (w_12 _ _) rfl 29 (Nat.le_of_ble_eq_true rfl) in_X12_X12_cut k66_X12_cut rfl dX12_cut_43 ?_
    refine g_bipush (pc := 46) (v := 6) C dX12_cut_46 (by decide) ?_
    refine g_iload_n (pc := 48) C dX12_cut_48 rfl 1 rfl ?_
    refine g_imul (pc := 49) C dX12_cut_49 ?_
    refine g_iconst (pc := 50) (v := 4) C dX12_cut_50 (by decide) ?_
    refine g_iadd (pc := 51) C dX12_cut_51 ?_
    refine g_iald (pc := 52) C 65 (w_65 _ _) h dX12_cut_52 (fun h => ?_)
    refine g_iald (pc := 53) C 49 (w_49 _ _) h dX12_cut_53 (fun h => ?_)
    refine g_aload_n (pc := 54) C dX12_cut_54 rfl 0 rfl ?_
    refine g_get (pc := 55) C 12 (w_12 _ _) rfl 2 (Nat.le_of_ble_eq_true rfl) in_X12_X12_cut k7_X12_cut rfl dX12_cut_55 ?_
    refine g_aload_n (pc := 58) C dX12_cut_58 rfl 0 rfl ?_
    refine g_get (pc := 59) C 12 (w_12 _ _) rfl 29 (Nat.le_of_ble_eq_true rfl) in_X12_X12_cut k66_X12_cut rfl dX12_cut_59 ?_
    refine g_bipush (pc := 62) (v := 6) C dX12_cut_62 (by decide) ?_
    refine g_iload (pc := 64) C dX12_cut_64 4 rfl ?_
    refine g_imul (pc := 66) C dX12_cut_66 ?_
    refine g_iconst (pc := 67) (v := 4) C dX12_cut_67 (by decide) ?_
    refine g_iadd (pc := 68) C dX12_cut_68 ?_
    refine g_iald (pc := 69) C 65 (w_65 _ _) h dX12_cut_69 (fun h => ?_)
    refine g_iald (pc := 70) C 49 (w_49 _ _) h dX12_cut_70 (fun h => ?_)
    refine g_icmp_ne (pc := 71) (tgt := 104) C h dX12_cut_71 (by decide) (fun h => ?_) (fun h => ?_)
    · refine g_weak (lv1 := [(0, .ref (ad X 12)), (1, .int v1), (2, .int v2), (3, .int v3), (4, .int v4)]) [0, 1, 2, 3, 4] rfl ?_
      exact s_X12_cut_b104 C v1 v2 v3 v4 hrec29  S h
    · refine g_aload_n (pc := 74) C dX12_cut_74 rfl 0 rfl ?_
      refine g_get (pc := 75) C 12 (w_12 _ _) rfl 29 (Nat.le_of_ble_eq_true rfl) in_X12_X12_cut k66_X12_cut rfl dX12_cut_75 ?_
      refine g_bipush (pc := 78) (v := 6) C dX12_cut_78 (by decide) ?_
      refine g_iload_n (pc := 80) C dX12_cut_80 rfl 1 rfl ?_
      refine g_imul (pc := 81) C dX12_cut_81 ?_
      refine g_iconst (pc := 82) (v := 2) C dX12_cut_82 (by decide) ?_
      refine g_iadd (pc := 83) C dX12_cut_83 ?_
      refine g_iald (pc := 84) C 65 (w_65 _ _) h dX12_cut_84 (fun h => ?_)
      refine g_aload_n (pc := 85) C dX12_cut_85 rfl 0 rfl ?_
      refine g_get (pc := 86) C 12 (w_12 _ _) rfl 29 (Nat.le_of_ble_eq_true rfl) in_X12_X12_cut k66_X12_cut rfl dX12_cut_86 ?_
      refine g_bipush (pc := 89) (v := 6) C dX12_cut_89 (by decide) ?_
      refine g_iload (pc := 91) C dX12_cut_91 4 rfl ?_
      refine g_imul (pc := 93) C dX12_cut_93 ?_
      refine g_iconst (pc := 94) (v := 2) C dX12_cut_94 (by decide) ?_
      refine g_iadd (pc := 95) C dX12_cut_95 ?_
      refine g_iald (pc := 96) C 65 (w_65 _ _) h dX12_cut_96 (fun h => ?_)
      refine g_icmp_ne (pc := 97) (tgt := 104) C h dX12_cut_97 (by decide) (fun h => ?_) (fun h => ?_)
      · refine g_weak (lv1 := [(0, .ref (ad X 12)), (1, .int v1), (2, .int v2), (3, .int v3), (4, .int v4)]) [0, 1, 2, 3, 4] rfl ?_
        exact s_X12_cut_b104 C v1 v2 v3 v4 hrec29  S h
      · refine g_iconst (pc := 100) (v := 1) C dX12_cut_100 (by decide) ?_
        refine g_goto (pc := 101) (tgt := 105) C dX12_cut_101 (by decide) ?_
        refine g_weak (lv1 := [(0, .ref (ad X 12)), (1, .int v1), (2, .int v2), (3, .int v3), (4, .int v4)]) [0, 1, 2, 3, 4] rfl ?_
        exact s_X12_cut_b105 C v1 v2 v3 v4 1 hrec29  S h
set_option maxRecDepth 100000 in
set_option maxHeartbeats 4000000 in
theorem s_X12_cut_l29 {X : MC} (C : Cx X cX12_cut RX12 wsX12_cut 7 rmX12_cut (some .int)) (v1 : Int32) (v2 : Int32) : ∀ (n : Nat) (s : Int32 × Int32 × St) (r : Int32 × St), f_X12_cut_l29 v1 v2 n s = some r → G X (QM mkI X r) s.2.2 29 [(0, .ref (ad X 12)), (1, .int v1), (2, .int v2), (3, .int (s.1)), (4, .int (s.2.1))] [] :=
  loop_sound (fun rec29 hrec29 s r h => s_X12_cut_b29 C v1 v2 s.1 s.2.1 hrec29 s.2.2 h)
set_option maxRecDepth 100000 in
set_option maxHeartbeats 4000000 in
theorem s_X12_cut_b0 {X : MC} (C : Cx X cX12_cut RX12 wsX12_cut 7 rmX12_cut (some .int)) (a1 : Int32) (S : St) {r0 : Int32 × St} (h : f_X12_cut_b0 a1 S = some r0) : G X (QM mkI X r0) S 0 [(0, .ref (ad X 12)), (1, .int a1)] [] := by
  unfold f_X12_cut_b0 at h
  refine g_aload_n (pc := 0) C dX12_cut_0 rfl 0 rfl ?_
  refine g_get (pc := 1) C 12 (w_12 _ _) rfl 29 (Nat.le_of_ble_eq_true rfl) in_X12_X12_cut k66_X12_cut rfl dX12_cut_1 ?_
  refine g_bipush (pc := 4) (v := 6) C dX12_cut_4 (by decide) ?_
  refine g_iload_n (pc := 6) C dX12_cut_6 rfl 1 rfl ?_
  refine g_imul (pc := 7) C dX12_cut_7 ?_
  refine g_iconst (pc := 8) (v := 0) C dX12_cut_8 (by decide) ?_
  refine g_iadd (pc := 9) C dX12_cut_9 ?_
  refine g_iald (pc := 10) C 65 (w_65 _ _) h dX12_cut_10 (fun h => ?_)
  refine g_leti h (fun x1 h => ?_)
  refine g_istore_n (pc := 11) C [(2, .int x1), (0, .ref (ad X 12)), (1, .int a1)] dX12_cut_11 rfl (Nat.le_of_ble_eq_true rfl) rfl ?_
  refine g_iload_n (pc := 12) C dX12_cut_12 rfl 0 rfl ?_
  refine g_aload_n (pc := 13) C dX12_cut_13 rfl 1 rfl ?_
  refine g_get (pc := 14) C 12 (w_12 _ _) rfl 29 (Nat.le_of_ble_eq_true rfl) in_X12_X12_cut k66_X12_cut rfl dX12_cut_14 ?_
  refine g_bipush (pc := 17) (v := 6) C dX12_cut_17 (by decide) ?_
  refine g_iload_n (pc := 19) C dX12_cut_19 rfl 2 rfl ?_
  refine g_imul (pc := 20) C dX12_cut_20 ?_
  refine g_iconst (pc := 21) (v := 1) C dX12_cut_21 (by decide) ?_
  refine g_iadd (pc := 22) C dX12_cut_22 ?_
  refine g_iald (pc := 23) C 65 (w_65 _ _) h dX12_cut_23 (fun h => ?_)
  refine g_iadd (pc := 24) C dX12_cut_24 ?_
  refine g_leti h (fun x2 h => ?_)
  refine g_istore_n (pc := 25) C [(3, .int x2), (2, .int x1), (0, .ref (ad X 12)), (1, .int a1)] dX12_cut_25 rfl (Nat.le_of_ble_eq_true rfl) rfl ?_
  refine g_iconst (pc := 26) (v := 0) C dX12_cut_26 (by decide) ?_
  refine g_istore (pc := 27) C [(4, .int 0), (3, .int x2), (2, .int x1), (0, .ref (ad X 12)), (1, .int a1)] dX12_cut_27 (Nat.le_of_ble_eq_true rfl) rfl ?_
  refine g_weak (lv1 := [(0, .ref (ad X 12)), (1, .int a1), (2, .int x1), (3, .int x2), (4, .int 0)]) [3, 4, 2, 1, 0] rfl ?_
  exact s_X12_cut_l29 C a1 x1 _ (x2, 0, S) _ h
theorem c_X12_cut (l : Launch) (b : Bw) (a1 : Int32) (S : St) : Ct l b yX12_cut wsX12_cut rmX12_cut [.ref (bad b 12), .int a1] S mkI (f_X12_cut a1 S) := Ct.of (by decide +kernel) rfl (Nat.le_of_ble_eq_true rfl) (fun X C hl hb r h => by
  subst hl; subst hb
  exact s_X12_cut_b0 C a1 S h)
/-! StyleRowsModel.event(II)I -/
set_option maxRecDepth 100000 in
set_option maxHeartbeats 4000000 in
theorem s_X12_event_b28 {X : MC} (C : Cx X cX12_event RX12 wsX12_event 3 rmX12_event (some .int)) (S : St) {r0 : Int32 × St} (h : f_X12_event_b28 S = some r0) : G X (QM mkI X r0) S 28 [] [] := by
  unfold f_X12_event_b28 at h
  refine g_sipush (pc := 28) (v := (-1001)) C dX12_event_28 (by decide) ?_
  exact g_iret (pc := 31) C h dX12_event_31
set_option maxRecDepth 100000 in
set_option maxHeartbeats 4000000 in
theorem s_X12_event_b68 {X : MC} (C : Cx X cX12_event RX12 wsX12_event 3 rmX12_event (some .int)) (w0 : Int32) (S : St) {r0 : Int32 × St} (h : f_X12_event_b68 w0 S = some r0) : G X (QM mkI X r0) S 68 [] [.int w0] := by
  unfold f_X12_event_b68 at h
  exact g_iret (pc := 68) C h dX12_event_68
set_option maxRecDepth 100000 in
set_option maxHeartbeats 4000000 in
theorem s_X12_event_b0 {X : MC} (C : Cx X cX12_event RX12 wsX12_event 3 rmX12_event (some .int)) (a1 : Int32) (a2 : Int32) (S : St) {r0 : Int32 × St} (h : f_X12_event_b0 a1 a2 S = some r0) : G X (QM mkI X r0) S 0 [(0, .ref (ad X 12)), (1, .int a1), (2, .int a2)] [] := by
  unfold f_X12_event_b0 at h
  refine g_iload_n (pc := 0) C dX12_event_0 rfl 1 rfl ?_
  refine g_i2l (pc := 1) C dX12_event_1 ?_
  refine g_lconst (pc := 2) (v := 0) C dX12_event_2 (by decide) ?_
  refine g_aload_n (pc := 3) C dX12_event_3 rfl 0 rfl ?_
  refine g_get (pc := 4) C 12 (w_12 _ _) rfl 30 (Nat.le_of_ble_eq_true rfl) in_X12_X12_event k257_X12_event rfl dX12_event_4 ?_
  refine g_iconst (pc := 7) (v := 1) C dX12_event_7 (by decide) ?_
  refine g_isub (pc := 8) C dX12_event_8 ?_
  refine g_i2l (pc := 9) C dX12_event_9 ?_
  refine g_callS (pc := 10) C (c_X12_in (Xl X) (Xb X) (Int32.toInt64 a1) 0 (Int32.toInt64 ((gI S 34) - 1)) S) gX12_event_X12_in rfl rfl rfl hd_X12_in ⟨Nat.le_of_ble_eq_true rfl, Nat.le_of_ble_eq_true rfl⟩ rfl rfl (Nat.le_of_ble_eq_true rfl) dX12_event_10 h (fun r2 S1 h => ?_)
  change G X _ S1 13 [(0, .ref (ad X 12)), (1, .int a1), (2, .int a2)] [.int r2]
  refine g_if_eq (pc := 13) (tgt := 28) C h dX12_event_13 (by decide) (fun h => ?_) (fun h => ?_)
  · refine g_weak (lv1 := []) [] rfl ?_
    exact s_X12_event_b28 C   S1 h
  · refine g_iload_n (pc := 16) C dX12_event_16 rfl 2 rfl ?_
    refine g_i2l (pc := 17) C dX12_event_17 ?_
    refine g_lconst (pc := 18) (v := 0) C dX12_event_18 (by decide) ?_
    refine g_ldc2 (pc := 19) (v := 6) C k266_X12_event dX12_event_19 ?_
    refine g_callS (pc := 22) C (c_X12_in (Xl X) (Xb X) (Int32.toInt64 a2) 0 6 S1) gX12_event_X12_in rfl rfl rfl hd_X12_in ⟨Nat.le_of_ble_eq_true rfl, Nat.le_of_ble_eq_true rfl⟩ rfl rfl (Nat.le_of_ble_eq_true rfl) dX12_event_22 h (fun r4 S3 h => ?_)
    change G X _ S3 25 [(0, .ref (ad X 12)), (1, .int a1), (2, .int a2)] [.int r4]
    refine g_if_ne (pc := 25) (tgt := 32) C h dX12_event_25 (by decide) (fun h => ?_) (fun h => ?_)
    · refine g_iload_n (pc := 32) C dX12_event_32 rfl 2 rfl ?_
      refine g_bipush (pc := 33) (v := 6) C dX12_event_33 (by decide) ?_
      refine g_icmp_ne (pc := 35) (tgt := 57) C h dX12_event_35 (by decide) (fun h => ?_) (fun h => ?_)
      · refine g_aload_n (pc := 57) C dX12_event_57 rfl 0 rfl ?_
        refine g_get (pc := 58) C 12 (w_12 _ _) rfl 31 (Nat.le_of_ble_eq_true rfl) in_X12_X12_event k69_X12_event rfl dX12_event_58 ?_
        refine g_bipush (pc := 61) (v := 6) C dX12_event_61 (by decide) ?_
        refine g_iload_n (pc := 63) C dX12_event_63 rfl 1 rfl ?_
        refine g_imul (pc := 64) C dX12_event_64 ?_
        refine g_iload_n (pc := 65) C dX12_event_65 rfl 2 rfl ?_
        refine g_iadd (pc := 66) C dX12_event_66 ?_
        refine g_iald (pc := 67) C 66 (w_66 _ _) h dX12_event_67 (fun h => ?_)
        refine g_weak (lv1 := []) [] rfl ?_
        exact s_X12_event_b68 C (rd S3 66 ((6 * a1) + a2))  S3 h
      · refine g_aload_n (pc := 38) C dX12_event_38 rfl 0 rfl ?_
        refine g_get (pc := 39) C 12 (w_12 _ _) rfl 2 (Nat.le_of_ble_eq_true rfl) in_X12_X12_event k7_X12_event rfl dX12_event_39 ?_
        refine g_aload_n (pc := 42) C dX12_event_42 rfl 0 rfl ?_
        refine g_get (pc := 43) C 12 (w_12 _ _) rfl 31 (Nat.le_of_ble_eq_true rfl) in_X12_X12_event k69_X12_event rfl dX12_event_43 ?_
        refine g_bipush (pc := 46) (v := 6) C dX12_event_46 (by decide) ?_
        refine g_iload_n (pc := 48) C dX12_event_48 rfl 1 rfl ?_
        refine g_imul (pc := 49) C dX12_event_49 ?_
        refine g_iconst (pc := 50) (v := 4) C dX12_event_50 (by decide) ?_
        refine g_iadd (pc := 51) C dX12_event_51 ?_
        refine g_iald (pc := 52) C 66 (w_66 _ _) h dX12_event_52 (fun h => ?_)
        refine g_iald (pc := 53) C 49 (w_49 _ _) h dX12_event_53 (fun h => ?_)
        refine g_goto (pc := 54) (tgt := 68) C dX12_event_54 (by decide) ?_
        refine g_weak (lv1 := []) [] rfl ?_
        exact s_X12_event_b68 C (rd S3 49 (rd S3 66 ((6 * a1) + 4)))  S3 h
    · refine g_weak (lv1 := []) [] rfl ?_
      exact s_X12_event_b28 C   S3 h
theorem c_X12_event (l : Launch) (b : Bw) (a1 : Int32) (a2 : Int32) (S : St) : Ct l b yX12_event wsX12_event rmX12_event [.ref (bad b 12), .int a1, .int a2] S mkI (f_X12_event a1 a2 S) := Ct.of (by decide +kernel) rfl (Nat.le_of_ble_eq_true rfl) (fun X C hl hb r h => by
  subst hl; subst hb
  exact s_X12_event_b0 C a1 a2 S h)
/-! StyleRowsModel.feed(IJ)I -/
set_option maxRecDepth 100000 in
set_option maxHeartbeats 4000000 in
theorem s_X12_feed_b37 {X : MC} (C : Cx X cX12_feed RX12 wsX12_feed 5 rmX12_feed (some .int)) {rec37 : Int32 × St → Option (Int32 × St)} (v2 : Int64) (v4 : Int32) (hrec37 : ∀ (s : Int32 × St) (r : Int32 × St), rec37 s = some r → G X (QM mkI X r) s.2 37 [(0, .ref (ad X 12)), (2, .long v2), (4, .int (s.1))] []) (S : St) {r0 : Int32 × St} (h : f_X12_feed_b37 rec37 v2 v4 S = some r0) : G X (QM mkI X r0) S 37 [(0, .ref (ad X 12)), (2, .long v2), (4, .int v4)] [] := by
  unfold f_X12_feed_b37 at h
  refine g_iload (pc := 37) C dX12_feed_37 2 rfl ?_
  refine g_if_lt (pc := 39) (tgt := 79) C h dX12_feed_39 (by decide) (fun h => ?_) (fun h => ?_)
  · refine g_aload_n (pc := 79) C dX12_feed_79 rfl 0 rfl ?_
    refine g_get (pc := 80) C 12 (w_12 _ _) rfl 22 (Nat.le_of_ble_eq_true rfl) in_X12_X12_feed k130_X12_feed rfl dX12_feed_80 ?_
    exact g_iret (pc := 83) C h dX12_feed_83
  · refine g_aload_n (pc := 42) C dX12_feed_42 rfl 0 rfl ?_
    refine g_get (pc := 43) C 12 (w_12 _ _) rfl 23 (Nat.le_of_ble_eq_true rfl) in_X12_X12_feed k63_X12_feed rfl dX12_feed_43 ?_
    refine g_aload_n (pc := 46) C dX12_feed_46 rfl 0 rfl ?_
    refine g_get (pc := 47) C 12 (w_12 _ _) rfl 22 (Nat.le_of_ble_eq_true rfl) in_X12_X12_feed k130_X12_feed rfl dX12_feed_47 ?_
    refine g_lload_n (pc := 50) C dX12_feed_50 rfl 1 rfl ?_
    refine g_bipush (pc := 51) (v := 8) C dX12_feed_51 (by decide) ?_
    refine g_iload (pc := 53) C dX12_feed_53 2 rfl ?_
    refine g_imul (pc := 55) C dX12_feed_55 ?_
    refine g_lshr (pc := 56) C dX12_feed_56 ?_
    refine g_ldc2 (pc := 57) (v := 255) C k133_X12_feed dX12_feed_57 ?_
    refine g_land (pc := 60) C dX12_feed_60 ?_
    refine g_l2i (pc := 61) C dX12_feed_61 ?_
    refine g_iast (pc := 62) C 64 (w_64 _ _) (ws_64 _ _) h dX12_feed_62 (fun S4 h => ?_)
    refine g_aload_n (pc := 63) C dX12_feed_63 rfl 0 rfl ?_
    refine g_dup (pc := 64) C dX12_feed_64 rfl ?_
    refine g_get (pc := 65) C 12 (w_12 _ _) rfl 22 (Nat.le_of_ble_eq_true rfl) in_X12_X12_feed k130_X12_feed rfl dX12_feed_65 ?_
    refine g_iconst (pc := 68) (v := 1) C dX12_feed_68 (by decide) ?_
    refine g_iadd (pc := 69) C dX12_feed_69 ?_
    refine g_put (pc := 70) C 12 (w_12 _ _) rfl 22 (Nat.le_of_ble_eq_true rfl) in_X12_X12_feed tyX12_ok nmX12 k130_X12_feed rfl rfl rfl (Nat.le_of_ble_eq_true rfl) (ws_12_22 _ _ _) dX12_feed_70 h (fun S5 h => ?_)
    refine g_iinc (pc := 73) (v := v4 + (-1)) C [(4, .int (v4 + (-1))), (0, .ref (ad X 12)), (2, .long v2)] dX12_feed_73 2 rfl rfl (Nat.le_of_ble_eq_true rfl) rfl ?_
    refine g_goto (pc := 76) (tgt := 37) C dX12_feed_76 (by decide) ?_
    refine g_weak (lv1 := [(0, .ref (ad X 12)), (2, .long v2), (4, .int (v4 + (-1)))]) [1, 2, 0] rfl ?_
    exact hrec37 (v4 + (-1), S5) _ h
set_option maxRecDepth 100000 in
set_option maxHeartbeats 4000000 in
theorem s_X12_feed_l37 {X : MC} (C : Cx X cX12_feed RX12 wsX12_feed 5 rmX12_feed (some .int)) (v2 : Int64) : ∀ (n : Nat) (s : Int32 × St) (r : Int32 × St), f_X12_feed_l37 v2 n s = some r → G X (QM mkI X r) s.2 37 [(0, .ref (ad X 12)), (2, .long v2), (4, .int (s.1))] [] :=
  loop_sound (fun rec37 hrec37 s r h => s_X12_feed_b37 C v2 s.1 hrec37 s.2 h)
set_option maxRecDepth 100000 in
set_option maxHeartbeats 4000000 in
theorem s_X12_feed_b0 {X : MC} (C : Cx X cX12_feed RX12 wsX12_feed 5 rmX12_feed (some .int)) (a1 : Int32) (a2 : Int64) (S : St) {r0 : Int32 × St} (h : f_X12_feed_b0 a1 a2 S = some r0) : G X (QM mkI X r0) S 0 [(0, .ref (ad X 12)), (1, .int a1), (2, .long a2)] [] := by
  unfold f_X12_feed_b0 at h
  refine g_iload_n (pc := 0) C dX12_feed_0 rfl 1 rfl ?_
  refine g_i2l (pc := 1) C dX12_feed_1 ?_
  refine g_lconst (pc := 2) (v := 1) C dX12_feed_2 (by decide) ?_
  refine g_ldc2 (pc := 3) (v := 8) C k128_X12_feed dX12_feed_3 ?_
  refine g_callS (pc := 6) C (c_X12_in (Xl X) (Xb X) (Int32.toInt64 a1) 1 8 S) gX12_feed_X12_in rfl rfl rfl hd_X12_in ⟨Nat.le_of_ble_eq_true rfl, Nat.le_of_ble_eq_true rfl⟩ rfl rfl (Nat.le_of_ble_eq_true rfl) dX12_feed_6 h (fun r2 S1 h => ?_)
  change G X _ S1 9 [(0, .ref (ad X 12)), (1, .int a1), (2, .long a2)] [.int r2]
  refine g_if_ne (pc := 9) (tgt := 16) C h dX12_feed_9 (by decide) (fun h => ?_) (fun h => ?_)
  · refine g_aload_n (pc := 16) C dX12_feed_16 rfl 0 rfl ?_
    refine g_get (pc := 17) C 12 (w_12 _ _) rfl 22 (Nat.le_of_ble_eq_true rfl) in_X12_X12_feed k130_X12_feed rfl dX12_feed_17 ?_
    refine g_iload_n (pc := 20) C dX12_feed_20 rfl 1 rfl ?_
    refine g_iadd (pc := 21) C dX12_feed_21 ?_
    refine g_sipush (pc := 22) (v := 400) C dX12_feed_22 (by decide) ?_
    refine g_icmp_le (pc := 25) (tgt := 32) C h dX12_feed_25 (by decide) (fun h => ?_) (fun h => ?_)
    · refine g_iload_n (pc := 32) C dX12_feed_32 rfl 1 rfl ?_
      refine g_iconst (pc := 33) (v := 1) C dX12_feed_33 (by decide) ?_
      refine g_isub (pc := 34) C dX12_feed_34 ?_
      refine g_leti h (fun x3 h => ?_)
      refine g_istore (pc := 35) C [(4, .int x3), (0, .ref (ad X 12)), (1, .int a1), (2, .long a2)] dX12_feed_35 (Nat.le_of_ble_eq_true rfl) rfl ?_
      refine g_weak (lv1 := [(0, .ref (ad X 12)), (2, .long a2), (4, .int x3)]) [1, 3, 0] rfl ?_
      exact s_X12_feed_l37 C a2 _ (x3, S1) _ h
    · refine g_sipush (pc := 28) (v := (-1004)) C dX12_feed_28 (by decide) ?_
      exact g_iret (pc := 31) C h dX12_feed_31
  · refine g_sipush (pc := 12) (v := (-1002)) C dX12_feed_12 (by decide) ?_
    exact g_iret (pc := 15) C h dX12_feed_15
theorem c_X12_feed (l : Launch) (b : Bw) (a1 : Int32) (a2 : Int64) (S : St) : Ct l b yX12_feed wsX12_feed rmX12_feed [.ref (bad b 12), .int a1, .long a2] S mkI (f_X12_feed a1 a2 S) := Ct.of (by decide +kernel) rfl (Nat.le_of_ble_eq_true rfl) (fun X C hl hb r h => by
  subst hl; subst hb
  exact s_X12_feed_b0 C a1 a2 S h)
/-! StyleRowsModel.floor(JJ)J -/
set_option maxRecDepth 100000 in
set_option maxHeartbeats 4000000 in
theorem s_X12_floor_b47 {X : MC} (C : Cx X cX12_floor RX12 wsX12_floor 6 rmX12_floor (some .long)) (w0 : Int64) (S : St) {r0 : Int64 × St} (h : f_X12_floor_b47 w0 S = some r0) : G X (QM mkL X r0) S 47 [] [.long w0] := by
  unfold f_X12_floor_b47 at h
  exact g_lret (pc := 47) C h dX12_floor_47
set_option maxRecDepth 100000 in
set_option maxHeartbeats 4000000 in
theorem s_X12_floor_b45 {X : MC} (C : Cx X cX12_floor RX12 wsX12_floor 6 rmX12_floor (some .long)) (v4 : Int64) (S : St) {r0 : Int64 × St} (h : f_X12_floor_b45 v4 S = some r0) : G X (QM mkL X r0) S 45 [(4, .long v4)] [] := by
  unfold f_X12_floor_b45 at h
  refine g_lload (pc := 45) C dX12_floor_45 0 rfl ?_
  refine g_weak (lv1 := []) [] rfl ?_
  exact s_X12_floor_b47 C v4  S h
set_option maxRecDepth 100000 in
set_option maxHeartbeats 4000000 in
theorem s_X12_floor_b35 {X : MC} (C : Cx X cX12_floor RX12 wsX12_floor 6 rmX12_floor (some .long)) (v4 : Int64) (w0 : Int32) (w1 : Int32) (S : St) {r0 : Int64 × St} (h : f_X12_floor_b35 v4 w0 w1 S = some r0) : G X (QM mkL X r0) S 35 [(4, .long v4)] [.int w1, .int w0] := by
  unfold f_X12_floor_b35 at h
  refine g_icmp_eq (pc := 35) (tgt := 45) C h dX12_floor_35 (by decide) (fun h => ?_) (fun h => ?_)
  · refine g_weak (lv1 := [(4, .long v4)]) [0] rfl ?_
    exact s_X12_floor_b45 C v4  S h
  · refine g_lload (pc := 38) C dX12_floor_38 0 rfl ?_
    refine g_lconst (pc := 40) (v := 1) C dX12_floor_40 (by decide) ?_
    refine g_lsub (pc := 41) C dX12_floor_41 ?_
    refine g_goto (pc := 42) (tgt := 47) C dX12_floor_42 (by decide) ?_
    refine g_weak (lv1 := []) [] rfl ?_
    exact s_X12_floor_b47 C (v4 - 1)  S h
set_option maxRecDepth 100000 in
set_option maxHeartbeats 4000000 in
theorem s_X12_floor_b24 {X : MC} (C : Cx X cX12_floor RX12 wsX12_floor 6 rmX12_floor (some .long)) (v2 : Int64) (v4 : Int64) (w0 : Int32) (S : St) {r0 : Int64 × St} (h : f_X12_floor_b24 v2 v4 w0 S = some r0) : G X (QM mkL X r0) S 24 [(2, .long v2), (4, .long v4)] [.int w0] := by
  unfold f_X12_floor_b24 at h
  refine g_lload_n (pc := 24) C dX12_floor_24 rfl 0 rfl ?_
  refine g_lconst (pc := 25) (v := 0) C dX12_floor_25 (by decide) ?_
  refine g_lcmp (pc := 26) C dX12_floor_26 ?_
  refine g_if_ge (pc := 27) (tgt := 34) C h dX12_floor_27 (by decide) (fun h => ?_) (fun h => ?_)
  · refine g_iconst (pc := 34) (v := 0) C dX12_floor_34 (by decide) ?_
    refine g_weak (lv1 := [(4, .long v4)]) [1] rfl ?_
    exact s_X12_floor_b35 C v4 w0 0  S h
  · refine g_iconst (pc := 30) (v := 1) C dX12_floor_30 (by decide) ?_
    refine g_goto (pc := 31) (tgt := 35) C dX12_floor_31 (by decide) ?_
    refine g_weak (lv1 := [(4, .long v4)]) [1] rfl ?_
    exact s_X12_floor_b35 C v4 w0 1  S h
set_option maxRecDepth 100000 in
set_option maxHeartbeats 4000000 in
theorem s_X12_floor_b0 {X : MC} (C : Cx X cX12_floor RX12 wsX12_floor 6 rmX12_floor (some .long)) (a1 : Int64) (a2 : Int64) (S : St) {r0 : Int64 × St} (h : f_X12_floor_b0 a1 a2 S = some r0) : G X (QM mkL X r0) S 0 [(0, .long a1), (2, .long a2)] [] := by
  unfold f_X12_floor_b0 at h
  refine g_lload_n (pc := 0) C dX12_floor_0 rfl 0 rfl ?_
  refine g_lload_n (pc := 1) C dX12_floor_1 rfl 1 rfl ?_
  refine g_ldiv (pc := 2) C h dX12_floor_2 (fun h => ?_)
  refine g_letl h (fun y1 h => ?_)
  refine g_lstore (pc := 3) C [(4, .long y1), (0, .long a1), (2, .long a2)] dX12_floor_3 (Nat.le_of_ble_eq_true rfl) rfl ?_
  refine g_lload_n (pc := 5) C dX12_floor_5 rfl 1 rfl ?_
  refine g_lload_n (pc := 6) C dX12_floor_6 rfl 2 rfl ?_
  refine g_lrem (pc := 7) C h dX12_floor_7 (fun h => ?_)
  refine g_lconst (pc := 8) (v := 0) C dX12_floor_8 (by decide) ?_
  refine g_lcmp (pc := 9) C dX12_floor_9 ?_
  refine g_if_eq (pc := 10) (tgt := 45) C h dX12_floor_10 (by decide) (fun h => ?_) (fun h => ?_)
  · refine g_weak (lv1 := [(4, .long y1)]) [0] rfl ?_
    exact s_X12_floor_b45 C y1  S h
  · refine g_lload_n (pc := 13) C dX12_floor_13 rfl 1 rfl ?_
    refine g_lconst (pc := 14) (v := 0) C dX12_floor_14 (by decide) ?_
    refine g_lcmp (pc := 15) C dX12_floor_15 ?_
    refine g_if_ge (pc := 16) (tgt := 23) C h dX12_floor_16 (by decide) (fun h => ?_) (fun h => ?_)
    · refine g_iconst (pc := 23) (v := 0) C dX12_floor_23 (by decide) ?_
      refine g_weak (lv1 := [(2, .long a2), (4, .long y1)]) [2, 0] rfl ?_
      exact s_X12_floor_b24 C a2 y1 0  S h
    · refine g_iconst (pc := 19) (v := 1) C dX12_floor_19 (by decide) ?_
      refine g_goto (pc := 20) (tgt := 24) C dX12_floor_20 (by decide) ?_
      refine g_weak (lv1 := [(2, .long a2), (4, .long y1)]) [2, 0] rfl ?_
      exact s_X12_floor_b24 C a2 y1 1  S h
theorem c_X12_floor (l : Launch) (b : Bw) (a1 : Int64) (a2 : Int64) (S : St) : Ct l b yX12_floor wsX12_floor rmX12_floor [.long a1, .long a2] S mkL (f_X12_floor a1 a2 S) := Ct.of (by decide +kernel) rfl (Nat.le_of_ble_eq_true rfl) (fun X C hl hb r h => by
  subst hl; subst hb
  exact s_X12_floor_b0 C a1 a2 S h)
/-! StyleRowsModel.has(II)Z -/
set_option maxRecDepth 100000 in
set_option maxHeartbeats 4000000 in
theorem s_X12_has_b16 {X : MC} (C : Cx X cX12_has RX12 wsX12_has 3 rmX12_has (some .boolean)) (w0 : Int32) (S : St) {r0 : Int32 × St} (h : f_X12_has_b16 w0 S = some r0) : G X (QM mkI X r0) S 16 [] [.int w0] := by
  unfold f_X12_has_b16 at h
  exact g_zret (pc := 16) C h dX12_has_16
set_option maxRecDepth 100000 in
set_option maxHeartbeats 4000000 in
theorem s_X12_has_b0 {X : MC} (C : Cx X cX12_has RX12 wsX12_has 3 rmX12_has (some .boolean)) (a1 : Int32) (a2 : Int32) (S : St) {r0 : Int32 × St} (h : f_X12_has_b0 a1 a2 S = some r0) : G X (QM mkI X r0) S 0 [(0, .ref (ad X 12)), (1, .int a1), (2, .int a2)] [] := by
  unfold f_X12_has_b0 at h
  refine g_aload_n (pc := 0) C dX12_has_0 rfl 0 rfl ?_
  refine g_get (pc := 1) C 12 (w_12 _ _) rfl 6 (Nat.le_of_ble_eq_true rfl) in_X12_X12_has k22_X12_has rfl dX12_has_1 ?_
  refine g_iload_n (pc := 4) C dX12_has_4 rfl 1 rfl ?_
  refine g_iald (pc := 5) C 53 (w_53 _ _) h dX12_has_5 (fun h => ?_)
  refine g_iload_n (pc := 6) C dX12_has_6 rfl 2 rfl ?_
  refine g_iand (pc := 7) C dX12_has_7 ?_
  refine g_if_eq (pc := 8) (tgt := 15) C h dX12_has_8 (by decide) (fun h => ?_) (fun h => ?_)
  · refine g_iconst (pc := 15) (v := 0) C dX12_has_15 (by decide) ?_
    refine g_weak (lv1 := []) [] rfl ?_
    exact s_X12_has_b16 C 0  S h
  · refine g_iconst (pc := 11) (v := 1) C dX12_has_11 (by decide) ?_
    refine g_goto (pc := 12) (tgt := 16) C dX12_has_12 (by decide) ?_
    refine g_weak (lv1 := []) [] rfl ?_
    exact s_X12_has_b16 C 1  S h
theorem c_X12_has (l : Launch) (b : Bw) (a1 : Int32) (a2 : Int32) (S : St) : Ct l b yX12_has wsX12_has rmX12_has [.ref (bad b 12), .int a1, .int a2] S mkI (f_X12_has a1 a2 S) := Ct.of (by decide +kernel) rfl (Nat.le_of_ble_eq_true rfl) (fun X C hl hb r h => by
  subst hl; subst hb
  exact s_X12_has_b0 C a1 a2 S h)
/-! StyleRowsModel.levelBy(IZ)I -/
set_option maxRecDepth 100000 in
set_option maxHeartbeats 4000000 in
theorem s_X12_levelBy_b108 {X : MC} (C : Cx X cX12_levelBy RX12 wsX12_levelBy 6 rmX12_levelBy (some .int)) {rec5 : Int32 × Int32 × St → Option (Int32 × St)} (v1 : Int32) (v2 : Int32) (v4 : Int32) (w0 : Int32) (hrec5 : ∀ (s : Int32 × Int32 × St) (r : Int32 × St), rec5 s = some r → G X (QM mkI X r) s.2.2 5 [(0, .ref (ad X 12)), (1, .int v1), (2, .int v2), (3, .int (s.1)), (4, .int (s.2.1))] []) (S : St) {r0 : Int32 × St} (h : f_X12_levelBy_b108 rec5 v1 v2 v4 w0 S = some r0) : G X (QM mkI X r0) S 108 [(0, .ref (ad X 12)), (1, .int v1), (2, .int v2), (4, .int v4)] [.int w0] := by
  unfold f_X12_levelBy_b108 at h
  refine g_istore_n (pc := 108) C [(3, .int w0), (0, .ref (ad X 12)), (1, .int v1), (2, .int v2), (4, .int v4)] dX12_levelBy_108 rfl (Nat.le_of_ble_eq_true rfl) rfl ?_
  refine g_iinc (pc := 109) (v := v4 + 1) C [(4, .int (v4 + 1)), (3, .int w0), (0, .ref (ad X 12)), (1, .int v1), (2, .int v2)] dX12_levelBy_109 4 rfl rfl (Nat.le_of_ble_eq_true rfl) rfl ?_
  refine g_goto (pc := 112) (tgt := 5) C dX12_levelBy_112 (by decide) ?_
  refine g_weak (lv1 := [(0, .ref (ad X 12)), (1, .int v1), (2, .int v2), (3, .int w0), (4, .int (v4 + 1))]) [2, 3, 4, 1, 0] rfl ?_
  exact hrec5 (w0, v4 + 1, S) _ h
set_option maxRecDepth 100000 in
set_option maxHeartbeats 4000000 in
theorem s_X12_levelBy_b95 {X : MC} (C : Cx X cX12_levelBy RX12 wsX12_levelBy 6 rmX12_levelBy (some .int)) {rec5 : Int32 × Int32 × St → Option (Int32 × St)} (v1 : Int32) (v2 : Int32) (v3 : Int32) (v4 : Int32) (w0 : Int32) (hrec5 : ∀ (s : Int32 × Int32 × St) (r : Int32 × St), rec5 s = some r → G X (QM mkI X r) s.2.2 5 [(0, .ref (ad X 12)), (1, .int v1), (2, .int v2), (3, .int (s.1)), (4, .int (s.2.1))] []) (S : St) {r0 : Int32 × St} (h : f_X12_levelBy_b95 rec5 v1 v2 v3 v4 w0 S = some r0) : G X (QM mkI X r0) S 95 [(0, .ref (ad X 12)), (1, .int v1), (2, .int v2), (3, .int v3), (4, .int v4)] [.int w0] := by
  unfold f_X12_levelBy_b95 at h
  refine g_istore (pc := 95) C [(5, .int w0), (0, .ref (ad X 12)), (1, .int v1), (2, .int v2), (3, .int v3), (4, .int v4)] dX12_levelBy_95 (Nat.le_of_ble_eq_true rfl) rfl ?_
  refine g_iload (pc := 97) C dX12_levelBy_97 0 rfl ?_
  refine g_if_eq (pc := 99) (tgt := 107) C h dX12_levelBy_99 (by decide) (fun h => ?_) (fun h => ?_)
  · refine g_iload_n (pc := 107) C dX12_levelBy_107 rfl 4 rfl ?_
    refine g_weak (lv1 := [(0, .ref (ad X 12)), (1, .int v1), (2, .int v2), (4, .int v4)]) [1, 2, 3, 5] rfl ?_
    exact s_X12_levelBy_b108 C v1 v2 v4 v3 hrec5  S h
  · refine g_iload (pc := 102) C dX12_levelBy_102 5 rfl ?_
    refine g_goto (pc := 104) (tgt := 108) C dX12_levelBy_104 (by decide) ?_
    refine g_weak (lv1 := [(0, .ref (ad X 12)), (1, .int v1), (2, .int v2), (4, .int v4)]) [1, 2, 3, 5] rfl ?_
    exact s_X12_levelBy_b108 C v1 v2 v4 v4 hrec5  S h
set_option maxRecDepth 100000 in
set_option maxHeartbeats 4000000 in
theorem s_X12_levelBy_b94 {X : MC} (C : Cx X cX12_levelBy RX12 wsX12_levelBy 6 rmX12_levelBy (some .int)) {rec5 : Int32 × Int32 × St → Option (Int32 × St)} (v1 : Int32) (v2 : Int32) (v3 : Int32) (v4 : Int32) (hrec5 : ∀ (s : Int32 × Int32 × St) (r : Int32 × St), rec5 s = some r → G X (QM mkI X r) s.2.2 5 [(0, .ref (ad X 12)), (1, .int v1), (2, .int v2), (3, .int (s.1)), (4, .int (s.2.1))] []) (S : St) {r0 : Int32 × St} (h : f_X12_levelBy_b94 rec5 v1 v2 v3 v4 S = some r0) : G X (QM mkI X r0) S 94 [(0, .ref (ad X 12)), (1, .int v1), (2, .int v2), (3, .int v3), (4, .int v4)] [] := by
  unfold f_X12_levelBy_b94 at h
  refine g_iconst (pc := 94) (v := 0) C dX12_levelBy_94 (by decide) ?_
  refine g_weak (lv1 := [(0, .ref (ad X 12)), (1, .int v1), (2, .int v2), (3, .int v3), (4, .int v4)]) [0, 1, 2, 3, 4] rfl ?_
  exact s_X12_levelBy_b95 C v1 v2 v3 v4 0 hrec5  S h
set_option maxRecDepth 100000 in
set_option maxHeartbeats 4000000 in
theorem s_X12_levelBy_b90 {X : MC} (C : Cx X cX12_levelBy RX12 wsX12_levelBy 6 rmX12_levelBy (some .int)) {rec5 : Int32 × Int32 × St → Option (Int32 × St)} (v1 : Int32) (v2 : Int32) (v3 : Int32) (v4 : Int32) (hrec5 : ∀ (s : Int32 × Int32 × St) (r : Int32 × St), rec5 s = some r → G X (QM mkI X r) s.2.2 5 [(0, .ref (ad X 12)), (1, .int v1), (2, .int v2), (3, .int (s.1)), (4, .int (s.2.1))] []) (S : St) {r0 : Int32 × St} (h : f_X12_levelBy_b90 rec5 v1 v2 v3 v4 S = some r0) : G X (QM mkI X r0) S 90 [(0, .ref (ad X 12)), (1, .int v1), (2, .int v2), (3, .int v3), (4, .int v4)] [] := by
  unfold f_X12_levelBy_b90 at h
  refine g_iconst (pc := 90) (v := 1) C dX12_levelBy_90 (by decide) ?_
  refine g_goto (pc := 91) (tgt := 95) C dX12_levelBy_91 (by decide) ?_
  refine g_weak (lv1 := [(0, .ref (ad X 12)), (1, .int v1), (2, .int v2), (3, .int v3), (4, .int v4)]) [0, 1, 2, 3, 4] rfl ?_
  exact s_X12_levelBy_b95 C v1 v2 v3 v4 1 hrec5  S h
set_option maxRecDepth 100000 in
set_option maxHeartbeats 4000000 in
theorem s_X12_levelBy_b54 {X : MC} (C : Cx X cX12_levelBy RX12 wsX12_levelBy 6 rmX12_levelBy (some .int)) {rec5 : Int32 × Int32 × St → Option (Int32 × St)} (v1 : Int32) (v2 : Int32) (v3 : Int32) (v4 : Int32) (hrec5 : ∀ (s : Int32 × Int32 × St) (r : Int32 × St), rec5 s = some r → G X (QM mkI X r) s.2.2 5 [(0, .ref (ad X 12)), (1, .int v1), (2, .int v2), (3, .int (s.1)), (4, .int (s.2.1))] []) (S : St) {r0 : Int32 × St} (h : f_X12_levelBy_b54 rec5 v1 v2 v3 v4 S = some r0) : G X (QM mkI X r0) S 54 [(0, .ref (ad X 12)), (1, .int v1), (2, .int v2), (3, .int v3), (4, .int v4)] [] := by
  unfold f_X12_levelBy_b54 at h
  refine g_iconst (pc := 54) (v := 0) C dX12_levelBy_54 (by decide) ?_
  refine g_goto (pc := 55) (tgt := 95) C dX12_levelBy_55 (by decide) ?_
  refine g_weak (lv1 := [(0, .ref (ad X 12)), (1, .int v1), (2, .int v2), (3, .int v3), (4, .int v4)]) [0, 1, 2, 3, 4] rfl ?_
  exact s_X12_levelBy_b95 C v1 v2 v3 v4 0 hrec5  S h
set_option maxRecDepth 100000 in
set_option maxHeartbeats 4000000 in
theorem s_X12_levelBy_b50 {X : MC} (C : Cx X cX12_levelBy RX12 wsX12_levelBy 6 rmX12_levelBy (some .int)) {rec5 : Int32 × Int32 × St → Option (Int32 × St)} (v1 : Int32) (v2 : Int32) (v3 : Int32) (v4 : Int32) (hrec5 : ∀ (s : Int32 × Int32 × St) (r : Int32 × St), rec5 s = some r → G X (QM mkI X r) s.2.2 5 [(0, .ref (ad X 12)), (1, .int v1), (2, .int v2), (3, .int (s.1)), (4, .int (s.2.1))] []) (S : St) {r0 : Int32 × St} (h : f_X12_levelBy_b50 rec5 v1 v2 v3 v4 S = some r0) : G X (QM mkI X r0) S 50 [(0, .ref (ad X 12)), (1, .int v1), (2, .int v2), (3, .int v3), (4, .int v4)] [] := by
  unfold f_X12_levelBy_b50 at h
  refine g_iconst (pc := 50) (v := 1) C dX12_levelBy_50 (by decide) ?_
  refine g_goto (pc := 51) (tgt := 95) C dX12_levelBy_51 (by decide) ?_
  refine g_weak (lv1 := [(0, .ref (ad X 12)), (1, .int v1), (2, .int v2), (3, .int v3), (4, .int v4)]) [0, 1, 2, 3, 4] rfl ?_
  exact s_X12_levelBy_b95 C v1 v2 v3 v4 1 hrec5  S h
set_option maxRecDepth 100000 in
set_option maxHeartbeats 4000000 in
theorem s_X12_levelBy_b5 {X : MC} (C : Cx X cX12_levelBy RX12 wsX12_levelBy 6 rmX12_levelBy (some .int)) {rec5 : Int32 × Int32 × St → Option (Int32 × St)} (v1 : Int32) (v2 : Int32) (v3 : Int32) (v4 : Int32) (hrec5 : ∀ (s : Int32 × Int32 × St) (r : Int32 × St), rec5 s = some r → G X (QM mkI X r) s.2.2 5 [(0, .ref (ad X 12)), (1, .int v1), (2, .int v2), (3, .int (s.1)), (4, .int (s.2.1))] []) (S : St) {r0 : Int32 × St} (h : f_X12_levelBy_b5 rec5 v1 v2 v3 v4 S = some r0) : G X (QM mkI X r0) S 5 [(0, .ref (ad X 12)), (1, .int v1), (2, .int v2), (3, .int v3), (4, .int v4)] [] := by
  unfold f_X12_levelBy_b5 at h
  refine g_iload (pc := 5) C dX12_levelBy_5 4 rfl ?_
  refine g_aload_n (pc := 7) C dX12_levelBy_7 rfl 0 rfl ?_
  refine g_get (pc := 8) C 12 (w_12 _ _) rfl 7 (Nat.le_of_ble_eq_true rfl) in_X12_X12_levelBy k101_X12_levelBy rfl dX12_levelBy_8 ?_
  refine g_icmp_ge (pc := 11) (tgt := 115) C h dX12_levelBy_11 (by decide) (fun h => ?_) (fun h => ?_)
  · refine g_iload_n (pc := 115) C dX12_levelBy_115 rfl 3 rfl ?_
    exact g_iret (pc := 116) C h dX12_levelBy_116
  · refine g_iload_n (pc := 14) C dX12_levelBy_14 rfl 2 rfl ?_
    refine g_if_eq (pc := 15) (tgt := 58) C h dX12_levelBy_15 (by decide) (fun h => ?_) (fun h => ?_)
    · refine g_aload_n (pc := 58) C dX12_levelBy_58 rfl 0 rfl ?_
      refine g_get (pc := 59) C 12 (w_12 _ _) rfl 8 (Nat.le_of_ble_eq_true rfl) in_X12_X12_levelBy k25_X12_levelBy rfl dX12_levelBy_59 ?_
      refine g_iload (pc := 62) C dX12_levelBy_62 4 rfl ?_
      refine g_iald (pc := 64) C 54 (w_54 _ _) h dX12_levelBy_64 (fun h => ?_)
      refine g_iload_n (pc := 65) C dX12_levelBy_65 rfl 1 rfl ?_
      refine g_icmp_gt (pc := 66) (tgt := 94) C h dX12_levelBy_66 (by decide) (fun h => ?_) (fun h => ?_)
      · refine g_weak (lv1 := [(0, .ref (ad X 12)), (1, .int v1), (2, .int v2), (3, .int v3), (4, .int v4)]) [0, 1, 2, 3, 4] rfl ?_
        exact s_X12_levelBy_b94 C v1 v2 v3 v4 hrec5  S h
      · refine g_iload_n (pc := 69) C dX12_levelBy_69 rfl 3 rfl ?_
        refine g_iconst (pc := 70) (v := (-1)) C dX12_levelBy_70 (by decide) ?_
        refine g_icmp_eq (pc := 71) (tgt := 90) C h dX12_levelBy_71 (by decide) (fun h => ?_) (fun h => ?_)
        · refine g_weak (lv1 := [(0, .ref (ad X 12)), (1, .int v1), (2, .int v2), (3, .int v3), (4, .int v4)]) [0, 1, 2, 3, 4] rfl ?_
          exact s_X12_levelBy_b90 C v1 v2 v3 v4 hrec5  S h
        · refine g_aload_n (pc := 74) C dX12_levelBy_74 rfl 0 rfl ?_
          refine g_get (pc := 75) C 12 (w_12 _ _) rfl 8 (Nat.le_of_ble_eq_true rfl) in_X12_X12_levelBy k25_X12_levelBy rfl dX12_levelBy_75 ?_
          refine g_iload (pc := 78) C dX12_levelBy_78 4 rfl ?_
          refine g_iald (pc := 80) C 54 (w_54 _ _) h dX12_levelBy_80 (fun h => ?_)
          refine g_aload_n (pc := 81) C dX12_levelBy_81 rfl 0 rfl ?_
          refine g_get (pc := 82) C 12 (w_12 _ _) rfl 8 (Nat.le_of_ble_eq_true rfl) in_X12_X12_levelBy k25_X12_levelBy rfl dX12_levelBy_82 ?_
          refine g_iload_n (pc := 85) C dX12_levelBy_85 rfl 3 rfl ?_
          refine g_iald (pc := 86) C 54 (w_54 _ _) h dX12_levelBy_86 (fun h => ?_)
          refine g_icmp_le (pc := 87) (tgt := 94) C h dX12_levelBy_87 (by decide) (fun h => ?_) (fun h => ?_)
          · refine g_weak (lv1 := [(0, .ref (ad X 12)), (1, .int v1), (2, .int v2), (3, .int v3), (4, .int v4)]) [0, 1, 2, 3, 4] rfl ?_
            exact s_X12_levelBy_b94 C v1 v2 v3 v4 hrec5  S h
          · refine g_weak (lv1 := [(0, .ref (ad X 12)), (1, .int v1), (2, .int v2), (3, .int v3), (4, .int v4)]) [0, 1, 2, 3, 4] rfl ?_
            exact s_X12_levelBy_b90 C v1 v2 v3 v4 hrec5  S h
    · refine g_aload_n (pc := 18) C dX12_levelBy_18 rfl 0 rfl ?_
      refine g_get (pc := 19) C 12 (w_12 _ _) rfl 8 (Nat.le_of_ble_eq_true rfl) in_X12_X12_levelBy k25_X12_levelBy rfl dX12_levelBy_19 ?_
      refine g_iload (pc := 22) C dX12_levelBy_22 4 rfl ?_
      refine g_iald (pc := 24) C 54 (w_54 _ _) h dX12_levelBy_24 (fun h => ?_)
      refine g_iload_n (pc := 25) C dX12_levelBy_25 rfl 1 rfl ?_
      refine g_icmp_le (pc := 26) (tgt := 54) C h dX12_levelBy_26 (by decide) (fun h => ?_) (fun h => ?_)
      · refine g_weak (lv1 := [(0, .ref (ad X 12)), (1, .int v1), (2, .int v2), (3, .int v3), (4, .int v4)]) [0, 1, 2, 3, 4] rfl ?_
        exact s_X12_levelBy_b54 C v1 v2 v3 v4 hrec5  S h
      · refine g_iload_n (pc := 29) C dX12_levelBy_29 rfl 3 rfl ?_
        refine g_iconst (pc := 30) (v := (-1)) C dX12_levelBy_30 (by decide) ?_
        refine g_icmp_eq (pc := 31) (tgt := 50) C h dX12_levelBy_31 (by decide) (fun h => ?_) (fun h => ?_)
        · refine g_weak (lv1 := [(0, .ref (ad X 12)), (1, .int v1), (2, .int v2), (3, .int v3), (4, .int v4)]) [0, 1, 2, 3, 4] rfl ?_
          exact s_X12_levelBy_b50 C v1 v2 v3 v4 hrec5  S h
        · refine g_aload_n (pc := 34) C dX12_levelBy_34 rfl 0 rfl ?_
          refine g_get (pc := 35) C 12 (w_12 _ _) rfl 8 (Nat.le_of_ble_eq_true rfl) in_X12_X12_levelBy k25_X12_levelBy rfl dX12_levelBy_35 ?_
          refine g_iload (pc := 38) C dX12_levelBy_38 4 rfl ?_
          refine g_iald (pc := 40) C 54 (w_54 _ _) h dX12_levelBy_40 (fun h => ?_)
          refine g_aload_n (pc := 41) C dX12_levelBy_41 rfl 0 rfl ?_
          refine g_get (pc := 42) C 12 (w_12 _ _) rfl 8 (Nat.le_of_ble_eq_true rfl) in_X12_X12_levelBy k25_X12_levelBy rfl dX12_levelBy_42 ?_
          refine g_iload_n (pc := 45) C dX12_levelBy_45 rfl 3 rfl ?_
          refine g_iald (pc := 46) C 54 (w_54 _ _) h dX12_levelBy_46 (fun h => ?_)
          refine g_icmp_ge (pc := 47) (tgt := 54) C h dX12_levelBy_47 (by decide) (fun h => ?_) (fun h => ?_)
          · refine g_weak (lv1 := [(0, .ref (ad X 12)), (1, .int v1), (2, .int v2), (3, .int v3), (4, .int v4)]) [0, 1, 2, 3, 4] rfl ?_
            exact s_X12_levelBy_b54 C v1 v2 v3 v4 hrec5  S h
          · refine g_weak (lv1 := [(0, .ref (ad X 12)), (1, .int v1), (2, .int v2), (3, .int v3), (4, .int v4)]) [0, 1, 2, 3, 4] rfl ?_
            exact s_X12_levelBy_b50 C v1 v2 v3 v4 hrec5  S h
set_option maxRecDepth 100000 in
set_option maxHeartbeats 4000000 in
theorem s_X12_levelBy_l5 {X : MC} (C : Cx X cX12_levelBy RX12 wsX12_levelBy 6 rmX12_levelBy (some .int)) (v1 : Int32) (v2 : Int32) : ∀ (n : Nat) (s : Int32 × Int32 × St) (r : Int32 × St), f_X12_levelBy_l5 v1 v2 n s = some r → G X (QM mkI X r) s.2.2 5 [(0, .ref (ad X 12)), (1, .int v1), (2, .int v2), (3, .int (s.1)), (4, .int (s.2.1))] [] :=
  loop_sound (fun rec5 hrec5 s r h => s_X12_levelBy_b5 C v1 v2 s.1 s.2.1 hrec5 s.2.2 h)
set_option maxRecDepth 100000 in
set_option maxHeartbeats 4000000 in
theorem s_X12_levelBy_b0 {X : MC} (C : Cx X cX12_levelBy RX12 wsX12_levelBy 6 rmX12_levelBy (some .int)) (a1 : Int32) (a2 : Int32) (S : St) {r0 : Int32 × St} (h : f_X12_levelBy_b0 a1 a2 S = some r0) : G X (QM mkI X r0) S 0 [(0, .ref (ad X 12)), (1, .int a1), (2, .int a2)] [] := by
  unfold f_X12_levelBy_b0 at h
  refine g_iconst (pc := 0) (v := (-1)) C dX12_levelBy_0 (by decide) ?_
  refine g_istore_n (pc := 1) C [(3, .int (-1)), (0, .ref (ad X 12)), (1, .int a1), (2, .int a2)] dX12_levelBy_1 rfl (Nat.le_of_ble_eq_true rfl) rfl ?_
  refine g_iconst (pc := 2) (v := 0) C dX12_levelBy_2 (by decide) ?_
  refine g_istore (pc := 3) C [(4, .int 0), (3, .int (-1)), (0, .ref (ad X 12)), (1, .int a1), (2, .int a2)] dX12_levelBy_3 (Nat.le_of_ble_eq_true rfl) rfl ?_
  refine g_weak (lv1 := [(0, .ref (ad X 12)), (1, .int a1), (2, .int a2), (3, .int (-1)), (4, .int 0)]) [2, 3, 4, 1, 0] rfl ?_
  exact s_X12_levelBy_l5 C a1 a2 _ ((-1), 0, S) _ h
theorem c_X12_levelBy (l : Launch) (b : Bw) (a1 : Int32) (a2 : Int32) (S : St) : Ct l b yX12_levelBy wsX12_levelBy rmX12_levelBy [.ref (bad b 12), .int a1, .int a2] S mkI (f_X12_levelBy a1 a2 S) := Ct.of (by decide +kernel) rfl (Nat.le_of_ble_eq_true rfl) (fun X C hl hb r h => by
  subst hl; subst hb
  exact s_X12_levelBy_b0 C a1 a2 S h)
/-! StyleRowsModel.highAt(I)I -/
set_option maxRecDepth 100000 in
set_option maxHeartbeats 4000000 in
theorem s_X12_highAt_b36 {X : MC} (C : Cx X cX12_highAt RX12 wsX12_highAt 4 rmX12_highAt (some .int)) (v2 : Int32) (S : St) {r0 : Int32 × St} (h : f_X12_highAt_b36 v2 S = some r0) : G X (QM mkI X r0) S 36 [(0, .ref (ad X 12)), (2, .int v2)] [] := by
  unfold f_X12_highAt_b36 at h
  refine g_aload_n (pc := 36) C dX12_highAt_36 rfl 0 rfl ?_
  refine g_get (pc := 37) C 12 (w_12 _ _) rfl 9 (Nat.le_of_ble_eq_true rfl) in_X12_X12_highAt k28_X12_highAt rfl dX12_highAt_37 ?_
  refine g_iload_n (pc := 40) C dX12_highAt_40 rfl 1 rfl ?_
  refine g_iald (pc := 41) C 55 (w_55 _ _) h dX12_highAt_41 (fun h => ?_)
  exact g_iret (pc := 42) C h dX12_highAt_42
set_option maxRecDepth 100000 in
set_option maxHeartbeats 4000000 in
theorem s_X12_highAt_b0 {X : MC} (C : Cx X cX12_highAt RX12 wsX12_highAt 4 rmX12_highAt (some .int)) (a1 : Int32) (S : St) {r0 : Int32 × St} (h : f_X12_highAt_b0 a1 S = some r0) : G X (QM mkI X r0) S 0 [(0, .ref (ad X 12)), (1, .int a1)] [] := by
  unfold f_X12_highAt_b0 at h
  refine g_aload_n (pc := 0) C dX12_highAt_0 rfl 0 rfl ?_
  refine g_iload_n (pc := 1) C dX12_highAt_1 rfl 1 rfl ?_
  refine g_iconst (pc := 2) (v := 0) C dX12_highAt_2 (by decide) ?_
  refine g_callV (pc := 3) C 12 (c_X12_levelBy (Xl X) (Xb X) a1 0 S) gX12_highAt_X12_levelBy rfl rfl rfl hd_X12_levelBy ⟨Nat.le_of_ble_eq_true rfl, Nat.le_of_ble_eq_true rfl⟩ (w_12 _ _) rfl rfl rfl (Nat.le_of_ble_eq_true rfl) dX12_highAt_3 h (fun r2 S1 h => ?_)
  change G X _ S1 6 [(0, .ref (ad X 12)), (1, .int a1)] [.int r2]
  refine g_istore_n (pc := 6) C [(2, .int r2), (0, .ref (ad X 12)), (1, .int a1)] dX12_highAt_6 rfl (Nat.le_of_ble_eq_true rfl) rfl ?_
  refine g_aload_n (pc := 7) C dX12_highAt_7 rfl 1 rfl ?_
  refine g_iload_n (pc := 8) C dX12_highAt_8 rfl 2 rfl ?_
  refine g_iconst (pc := 9) (v := 1) C dX12_highAt_9 (by decide) ?_
  refine g_callV (pc := 10) C 12 (c_X12_levelBy (Xl X) (Xb X) a1 1 S1) gX12_highAt_X12_levelBy rfl rfl rfl hd_X12_levelBy ⟨Nat.le_of_ble_eq_true rfl, Nat.le_of_ble_eq_true rfl⟩ (w_12 _ _) rfl rfl rfl (Nat.le_of_ble_eq_true rfl) dX12_highAt_10 h (fun r4 S3 h => ?_)
  change G X _ S3 13 [(2, .int r2), (0, .ref (ad X 12)), (1, .int a1)] [.int r4]
  refine g_istore_n (pc := 13) C [(3, .int r4), (2, .int r2), (0, .ref (ad X 12)), (1, .int a1)] dX12_highAt_13 rfl (Nat.le_of_ble_eq_true rfl) rfl ?_
  refine g_iload_n (pc := 14) C dX12_highAt_14 rfl 1 rfl ?_
  refine g_iconst (pc := 15) (v := (-1)) C dX12_highAt_15 (by decide) ?_
  refine g_icmp_ne (pc := 16) (tgt := 22) C h dX12_highAt_16 (by decide) (fun h => ?_) (fun h => ?_)
  · refine g_iload_n (pc := 22) C dX12_highAt_22 rfl 0 rfl ?_
    refine g_iconst (pc := 23) (v := (-1)) C dX12_highAt_23 (by decide) ?_
    refine g_icmp_eq (pc := 24) (tgt := 36) C h dX12_highAt_24 (by decide) (fun h => ?_) (fun h => ?_)
    · refine g_weak (lv1 := [(0, .ref (ad X 12)), (2, .int r2)]) [2, 1] rfl ?_
      exact s_X12_highAt_b36 C r2  S3 h
    · refine g_aload_n (pc := 27) C dX12_highAt_27 rfl 2 rfl ?_
      refine g_get (pc := 28) C 12 (w_12 _ _) rfl 10 (Nat.le_of_ble_eq_true rfl) in_X12_X12_highAt k31_X12_highAt rfl dX12_highAt_28 ?_
      refine g_iload_n (pc := 31) C dX12_highAt_31 rfl 0 rfl ?_
      refine g_zald (pc := 32) C 56 (w_56 _ _) h dX12_highAt_32 (fun h => ?_)
      refine g_if_ne (pc := 33) (tgt := 43) C h dX12_highAt_33 (by decide) (fun h => ?_) (fun h => ?_)
      · refine g_aload_n (pc := 43) C dX12_highAt_43 rfl 2 rfl ?_
        refine g_get (pc := 44) C 12 (w_12 _ _) rfl 9 (Nat.le_of_ble_eq_true rfl) in_X12_X12_highAt k28_X12_highAt rfl dX12_highAt_44 ?_
        refine g_iload_n (pc := 47) C dX12_highAt_47 rfl 1 rfl ?_
        refine g_iald (pc := 48) C 55 (w_55 _ _) h dX12_highAt_48 (fun h => ?_)
        refine g_aload_n (pc := 49) C dX12_highAt_49 rfl 2 rfl ?_
        refine g_get (pc := 50) C 12 (w_12 _ _) rfl 9 (Nat.le_of_ble_eq_true rfl) in_X12_X12_highAt k28_X12_highAt rfl dX12_highAt_50 ?_
        refine g_iload_n (pc := 53) C dX12_highAt_53 rfl 0 rfl ?_
        refine g_iald (pc := 54) C 55 (w_55 _ _) h dX12_highAt_54 (fun h => ?_)
        refine g_aload_n (pc := 55) C dX12_highAt_55 rfl 2 rfl ?_
        refine g_get (pc := 56) C 12 (w_12 _ _) rfl 9 (Nat.le_of_ble_eq_true rfl) in_X12_X12_highAt k28_X12_highAt rfl dX12_highAt_56 ?_
        refine g_iload_n (pc := 59) C dX12_highAt_59 rfl 1 rfl ?_
        refine g_iald (pc := 60) C 55 (w_55 _ _) h dX12_highAt_60 (fun h => ?_)
        refine g_isub (pc := 61) C dX12_highAt_61 ?_
        refine g_i2l (pc := 62) C dX12_highAt_62 ?_
        refine g_iload_n (pc := 63) C dX12_highAt_63 rfl 3 rfl ?_
        refine g_aload_n (pc := 64) C dX12_highAt_64 rfl 2 rfl ?_
        refine g_get (pc := 65) C 12 (w_12 _ _) rfl 8 (Nat.le_of_ble_eq_true rfl) in_X12_X12_highAt k25_X12_highAt rfl dX12_highAt_65 ?_
        refine g_iload_n (pc := 68) C dX12_highAt_68 rfl 1 rfl ?_
        refine g_iald (pc := 69) C 54 (w_54 _ _) h dX12_highAt_69 (fun h => ?_)
        refine g_isub (pc := 70) C dX12_highAt_70 ?_
        refine g_i2l (pc := 71) C dX12_highAt_71 ?_
        refine g_lmul (pc := 72) C dX12_highAt_72 ?_
        refine g_aload_n (pc := 73) C dX12_highAt_73 rfl 2 rfl ?_
        refine g_get (pc := 74) C 12 (w_12 _ _) rfl 8 (Nat.le_of_ble_eq_true rfl) in_X12_X12_highAt k25_X12_highAt rfl dX12_highAt_74 ?_
        refine g_iload_n (pc := 77) C dX12_highAt_77 rfl 0 rfl ?_
        refine g_iald (pc := 78) C 54 (w_54 _ _) h dX12_highAt_78 (fun h => ?_)
        refine g_aload_n (pc := 79) C dX12_highAt_79 rfl 2 rfl ?_
        refine g_get (pc := 80) C 12 (w_12 _ _) rfl 8 (Nat.le_of_ble_eq_true rfl) in_X12_X12_highAt k25_X12_highAt rfl dX12_highAt_80 ?_
        refine g_iload_n (pc := 83) C dX12_highAt_83 rfl 1 rfl ?_
        refine g_iald (pc := 84) C 54 (w_54 _ _) h dX12_highAt_84 (fun h => ?_)
        refine g_isub (pc := 85) C dX12_highAt_85 ?_
        refine g_i2l (pc := 86) C dX12_highAt_86 ?_
        refine g_callS (pc := 87) C (c_X12_floor (Xl X) (Xb X) ((Int32.toInt64 ((rd S3 55 r4) - (rd S3 55 r2))) * (Int32.toInt64 (a1 - (rd S3 54 r2)))) (Int32.toInt64 ((rd S3 54 r4) - (rd S3 54 r2))) S3) gX12_highAt_X12_floor rfl rfl rfl hd_X12_floor ⟨Nat.le_of_ble_eq_true rfl, Nat.le_of_ble_eq_true rfl⟩ rfl rfl (Nat.le_of_ble_eq_true rfl) dX12_highAt_87 h (fun r6 S5 h => ?_)
        change G X _ S5 90 [(3, .int r4), (2, .int r2), (0, .ref (ad X 12)), (1, .int a1)] [.long r6, .int (rd S3 55 r2)]
        refine g_l2i (pc := 90) C dX12_highAt_90 ?_
        refine g_iadd (pc := 91) C dX12_highAt_91 ?_
        exact g_iret (pc := 92) C h dX12_highAt_92
      · refine g_weak (lv1 := [(0, .ref (ad X 12)), (2, .int r2)]) [2, 1] rfl ?_
        exact s_X12_highAt_b36 C r2  S3 h
  · refine g_bipush (pc := 19) (v := 64) C dX12_highAt_19 (by decide) ?_
    exact g_iret (pc := 21) C h dX12_highAt_21
theorem c_X12_highAt (l : Launch) (b : Bw) (a1 : Int32) (S : St) : Ct l b yX12_highAt wsX12_highAt rmX12_highAt [.ref (bad b 12), .int a1] S mkI (f_X12_highAt a1 S) := Ct.of (by decide +kernel) rfl (Nat.le_of_ble_eq_true rfl) (fun X C hl hb r h => by
  subst hl; subst hb
  exact s_X12_highAt_b0 C a1 S h)
/-! StyleRowsModel.highest(I)I -/
set_option maxRecDepth 100000 in
set_option maxHeartbeats 4000000 in
theorem s_X12_highest_b50 {X : MC} (C : Cx X cX12_highest RX12 wsX12_highest 1 rmX12_highest (some .int)) (w0 : Int32) (S : St) {r0 : Int32 × St} (h : f_X12_highest_b50 w0 S = some r0) : G X (QM mkI X r0) S 50 [] [.int w0] := by
  unfold f_X12_highest_b50 at h
  exact g_iret (pc := 50) C h dX12_highest_50
set_option maxRecDepth 100000 in
set_option maxHeartbeats 4000000 in
theorem s_X12_highest_b26 {X : MC} (C : Cx X cX12_highest RX12 wsX12_highest 1 rmX12_highest (some .int)) (v0 : Int32) (S : St) {r0 : Int32 × St} (h : f_X12_highest_b26 v0 S = some r0) : G X (QM mkI X r0) S 26 [(0, .int v0)] [] := by
  unfold f_X12_highest_b26 at h
  refine g_iload_n (pc := 26) C dX12_highest_26 rfl 0 rfl ?_
  refine g_bipush (pc := 27) (v := 8) C dX12_highest_27 (by decide) ?_
  refine g_icmp_ne (pc := 29) (tgt := 36) C h dX12_highest_29 (by decide) (fun h => ?_) (fun h => ?_)
  · refine g_iload_n (pc := 36) C dX12_highest_36 rfl 0 rfl ?_
    refine g_bipush (pc := 37) (v := 12) C dX12_highest_37 (by decide) ?_
    refine g_icmp_ne (pc := 39) (tgt := 47) C h dX12_highest_39 (by decide) (fun h => ?_) (fun h => ?_)
    · refine g_sipush (pc := 47) (v := 960) C dX12_highest_47 (by decide) ?_
      refine g_weak (lv1 := []) [] rfl ?_
      exact s_X12_highest_b50 C 960  S h
    · refine g_bipush (pc := 42) (v := 99) C dX12_highest_42 (by decide) ?_
      refine g_goto (pc := 44) (tgt := 50) C dX12_highest_44 (by decide) ?_
      refine g_weak (lv1 := []) [] rfl ?_
      exact s_X12_highest_b50 C 99  S h
  · refine g_iconst (pc := 32) (v := 1) C dX12_highest_32 (by decide) ?_
    refine g_goto (pc := 33) (tgt := 50) C dX12_highest_33 (by decide) ?_
    refine g_weak (lv1 := []) [] rfl ?_
    exact s_X12_highest_b50 C 1  S h
set_option maxRecDepth 100000 in
set_option maxHeartbeats 4000000 in
theorem s_X12_highest_b0 {X : MC} (C : Cx X cX12_highest RX12 wsX12_highest 1 rmX12_highest (some .int)) (a1 : Int32) (S : St) {r0 : Int32 × St} (h : f_X12_highest_b0 a1 S = some r0) : G X (QM mkI X r0) S 0 [(0, .int a1)] [] := by
  unfold f_X12_highest_b0 at h
  refine g_iload_n (pc := 0) C dX12_highest_0 rfl 0 rfl ?_
  refine g_iconst (pc := 1) (v := 2) C dX12_highest_1 (by decide) ?_
  refine g_icmp_gt (pc := 2) (tgt := 10) C h dX12_highest_2 (by decide) (fun h => ?_) (fun h => ?_)
  · refine g_iload_n (pc := 10) C dX12_highest_10 rfl 0 rfl ?_
    refine g_iconst (pc := 11) (v := 4) C dX12_highest_11 (by decide) ?_
    refine g_icmp_lt (pc := 12) (tgt := 26) C h dX12_highest_12 (by decide) (fun h => ?_) (fun h => ?_)
    · refine g_weak (lv1 := [(0, .int a1)]) [0] rfl ?_
      exact s_X12_highest_b26 C a1  S h
    · refine g_iload_n (pc := 15) C dX12_highest_15 rfl 0 rfl ?_
      refine g_bipush (pc := 16) (v := 6) C dX12_highest_16 (by decide) ?_
      refine g_icmp_gt (pc := 18) (tgt := 26) C h dX12_highest_18 (by decide) (fun h => ?_) (fun h => ?_)
      · refine g_weak (lv1 := [(0, .int a1)]) [0] rfl ?_
        exact s_X12_highest_b26 C a1  S h
      · refine g_bipush (pc := 21) (v := 127) C dX12_highest_21 (by decide) ?_
        refine g_goto (pc := 23) (tgt := 50) C dX12_highest_23 (by decide) ?_
        refine g_weak (lv1 := []) [] rfl ?_
        exact s_X12_highest_b50 C 127  S h
  · refine g_bipush (pc := 5) (v := 100) C dX12_highest_5 (by decide) ?_
    refine g_goto (pc := 7) (tgt := 50) C dX12_highest_7 (by decide) ?_
    refine g_weak (lv1 := []) [] rfl ?_
    exact s_X12_highest_b50 C 100  S h
theorem c_X12_highest (l : Launch) (b : Bw) (a1 : Int32) (S : St) : Ct l b yX12_highest wsX12_highest rmX12_highest [.int a1] S mkI (f_X12_highest a1 S) := Ct.of (by decide +kernel) rfl (Nat.le_of_ble_eq_true rfl) (fun X C hl hb r h => by
  subst hl; subst hb
  exact s_X12_highest_b0 C a1 S h)
/-! StyleRowsModel.isAhead(II)Z -/
set_option maxRecDepth 100000 in
set_option maxHeartbeats 4000000 in
theorem s_X12_isAhead_b144 {X : MC} (C : Cx X cX12_isAhead RX12 wsX12_isAhead 4 rmX12_isAhead (some .boolean)) (w0 : Int32) (S : St) {r0 : Int32 × St} (h : f_X12_isAhead_b144 w0 S = some r0) : G X (QM mkI X r0) S 144 [] [.int w0] := by
  unfold f_X12_isAhead_b144 at h
  exact g_zret (pc := 144) C h dX12_isAhead_144
set_option maxRecDepth 100000 in
set_option maxHeartbeats 4000000 in
theorem s_X12_isAhead_b118 {X : MC} (C : Cx X cX12_isAhead RX12 wsX12_isAhead 4 rmX12_isAhead (some .boolean)) (v1 : Int32) (v2 : Int32) (v3 : Int32) (S : St) {r0 : Int32 × St} (h : f_X12_isAhead_b118 v1 v2 v3 S = some r0) : G X (QM mkI X r0) S 118 [(1, .int v1), (2, .int v2), (3, .int v3)] [] := by
  unfold f_X12_isAhead_b118 at h
  refine g_iload_n (pc := 118) C dX12_isAhead_118 rfl 2 rfl ?_
  refine g_if_ne (pc := 119) (tgt := 135) C h dX12_isAhead_119 (by decide) (fun h => ?_) (fun h => ?_)
  · refine g_iload_n (pc := 135) C dX12_isAhead_135 rfl 2 rfl ?_
    refine g_if_ge (pc := 136) (tgt := 143) C h dX12_isAhead_136 (by decide) (fun h => ?_) (fun h => ?_)
    · refine g_iconst (pc := 143) (v := 0) C dX12_isAhead_143 (by decide) ?_
      refine g_weak (lv1 := []) [] rfl ?_
      exact s_X12_isAhead_b144 C 0  S h
    · refine g_iconst (pc := 139) (v := 1) C dX12_isAhead_139 (by decide) ?_
      refine g_goto (pc := 140) (tgt := 144) C dX12_isAhead_140 (by decide) ?_
      refine g_weak (lv1 := []) [] rfl ?_
      exact s_X12_isAhead_b144 C 1  S h
  · refine g_iload_n (pc := 122) C dX12_isAhead_122 rfl 0 rfl ?_
    refine g_iload_n (pc := 123) C dX12_isAhead_123 rfl 1 rfl ?_
    refine g_icmp_ge (pc := 124) (tgt := 131) C h dX12_isAhead_124 (by decide) (fun h => ?_) (fun h => ?_)
    · refine g_iconst (pc := 131) (v := 0) C dX12_isAhead_131 (by decide) ?_
      refine g_goto (pc := 132) (tgt := 144) C dX12_isAhead_132 (by decide) ?_
      refine g_weak (lv1 := []) [] rfl ?_
      exact s_X12_isAhead_b144 C 0  S h
    · refine g_iconst (pc := 127) (v := 1) C dX12_isAhead_127 (by decide) ?_
      refine g_goto (pc := 128) (tgt := 144) C dX12_isAhead_128 (by decide) ?_
      refine g_weak (lv1 := []) [] rfl ?_
      exact s_X12_isAhead_b144 C 1  S h
set_option maxRecDepth 100000 in
set_option maxHeartbeats 4000000 in
theorem s_X12_isAhead_b90 {X : MC} (C : Cx X cX12_isAhead RX12 wsX12_isAhead 4 rmX12_isAhead (some .boolean)) (v1 : Int32) (v2 : Int32) (v3 : Int32) (S : St) {r0 : Int32 × St} (h : f_X12_isAhead_b90 v1 v2 v3 S = some r0) : G X (QM mkI X r0) S 90 [(0, .ref (ad X 12)), (1, .int v1), (2, .int v2), (3, .int v3)] [] := by
  unfold f_X12_isAhead_b90 at h
  refine g_iload_n (pc := 90) C dX12_isAhead_90 rfl 3 rfl ?_
  refine g_if_ne (pc := 91) (tgt := 118) C h dX12_isAhead_91 (by decide) (fun h => ?_) (fun h => ?_)
  · refine g_weak (lv1 := [(1, .int v1), (2, .int v2), (3, .int v3)]) [1, 2, 3] rfl ?_
    exact s_X12_isAhead_b118 C v1 v2 v3  S h
  · refine g_aload_n (pc := 94) C dX12_isAhead_94 rfl 0 rfl ?_
    refine g_get (pc := 95) C 12 (w_12 _ _) rfl 29 (Nat.le_of_ble_eq_true rfl) in_X12_X12_isAhead k66_X12_isAhead rfl dX12_isAhead_95 ?_
    refine g_bipush (pc := 98) (v := 6) C dX12_isAhead_98 (by decide) ?_
    refine g_iload_n (pc := 100) C dX12_isAhead_100 rfl 1 rfl ?_
    refine g_imul (pc := 101) C dX12_isAhead_101 ?_
    refine g_iconst (pc := 102) (v := 4) C dX12_isAhead_102 (by decide) ?_
    refine g_iadd (pc := 103) C dX12_isAhead_103 ?_
    refine g_iald (pc := 104) C 65 (w_65 _ _) h dX12_isAhead_104 (fun h => ?_)
    refine g_aload_n (pc := 105) C dX12_isAhead_105 rfl 0 rfl ?_
    refine g_get (pc := 106) C 12 (w_12 _ _) rfl 29 (Nat.le_of_ble_eq_true rfl) in_X12_X12_isAhead k66_X12_isAhead rfl dX12_isAhead_106 ?_
    refine g_bipush (pc := 109) (v := 6) C dX12_isAhead_109 (by decide) ?_
    refine g_iload_n (pc := 111) C dX12_isAhead_111 rfl 2 rfl ?_
    refine g_imul (pc := 112) C dX12_isAhead_112 ?_
    refine g_iconst (pc := 113) (v := 4) C dX12_isAhead_113 (by decide) ?_
    refine g_iadd (pc := 114) C dX12_isAhead_114 ?_
    refine g_iald (pc := 115) C 65 (w_65 _ _) h dX12_isAhead_115 (fun h => ?_)
    refine g_isub (pc := 116) C dX12_isAhead_116 ?_
    refine g_leti h (fun x2 h => ?_)
    refine g_istore_n (pc := 117) C [(3, .int x2), (0, .ref (ad X 12)), (1, .int v1), (2, .int v2)] dX12_isAhead_117 rfl (Nat.le_of_ble_eq_true rfl) rfl ?_
    refine g_weak (lv1 := [(1, .int v1), (2, .int v2), (3, .int x2)]) [2, 3, 0] rfl ?_
    exact s_X12_isAhead_b118 C v1 v2 x2  S h
set_option maxRecDepth 100000 in
set_option maxHeartbeats 4000000 in
theorem s_X12_isAhead_b62 {X : MC} (C : Cx X cX12_isAhead RX12 wsX12_isAhead 4 rmX12_isAhead (some .boolean)) (v1 : Int32) (v2 : Int32) (v3 : Int32) (S : St) {r0 : Int32 × St} (h : f_X12_isAhead_b62 v1 v2 v3 S = some r0) : G X (QM mkI X r0) S 62 [(0, .ref (ad X 12)), (1, .int v1), (2, .int v2), (3, .int v3)] [] := by
  unfold f_X12_isAhead_b62 at h
  refine g_iload_n (pc := 62) C dX12_isAhead_62 rfl 3 rfl ?_
  refine g_if_ne (pc := 63) (tgt := 90) C h dX12_isAhead_63 (by decide) (fun h => ?_) (fun h => ?_)
  · refine g_weak (lv1 := [(0, .ref (ad X 12)), (1, .int v1), (2, .int v2), (3, .int v3)]) [0, 1, 2, 3] rfl ?_
    exact s_X12_isAhead_b90 C v1 v2 v3  S h
  · refine g_aload_n (pc := 66) C dX12_isAhead_66 rfl 0 rfl ?_
    refine g_get (pc := 67) C 12 (w_12 _ _) rfl 29 (Nat.le_of_ble_eq_true rfl) in_X12_X12_isAhead k66_X12_isAhead rfl dX12_isAhead_67 ?_
    refine g_bipush (pc := 70) (v := 6) C dX12_isAhead_70 (by decide) ?_
    refine g_iload_n (pc := 72) C dX12_isAhead_72 rfl 1 rfl ?_
    refine g_imul (pc := 73) C dX12_isAhead_73 ?_
    refine g_iconst (pc := 74) (v := 2) C dX12_isAhead_74 (by decide) ?_
    refine g_iadd (pc := 75) C dX12_isAhead_75 ?_
    refine g_iald (pc := 76) C 65 (w_65 _ _) h dX12_isAhead_76 (fun h => ?_)
    refine g_aload_n (pc := 77) C dX12_isAhead_77 rfl 0 rfl ?_
    refine g_get (pc := 78) C 12 (w_12 _ _) rfl 29 (Nat.le_of_ble_eq_true rfl) in_X12_X12_isAhead k66_X12_isAhead rfl dX12_isAhead_78 ?_
    refine g_bipush (pc := 81) (v := 6) C dX12_isAhead_81 (by decide) ?_
    refine g_iload_n (pc := 83) C dX12_isAhead_83 rfl 2 rfl ?_
    refine g_imul (pc := 84) C dX12_isAhead_84 ?_
    refine g_iconst (pc := 85) (v := 2) C dX12_isAhead_85 (by decide) ?_
    refine g_iadd (pc := 86) C dX12_isAhead_86 ?_
    refine g_iald (pc := 87) C 65 (w_65 _ _) h dX12_isAhead_87 (fun h => ?_)
    refine g_isub (pc := 88) C dX12_isAhead_88 ?_
    refine g_leti h (fun x3 h => ?_)
    refine g_istore_n (pc := 89) C [(3, .int x3), (0, .ref (ad X 12)), (1, .int v1), (2, .int v2)] dX12_isAhead_89 rfl (Nat.le_of_ble_eq_true rfl) rfl ?_
    refine g_weak (lv1 := [(0, .ref (ad X 12)), (1, .int v1), (2, .int v2), (3, .int x3)]) [1, 2, 3, 0] rfl ?_
    exact s_X12_isAhead_b90 C v1 v2 x3  S h
set_option maxRecDepth 100000 in
set_option maxHeartbeats 4000000 in
theorem s_X12_isAhead_b0 {X : MC} (C : Cx X cX12_isAhead RX12 wsX12_isAhead 4 rmX12_isAhead (some .boolean)) (a1 : Int32) (a2 : Int32) (S : St) {r0 : Int32 × St} (h : f_X12_isAhead_b0 a1 a2 S = some r0) : G X (QM mkI X r0) S 0 [(0, .ref (ad X 12)), (1, .int a1), (2, .int a2)] [] := by
  unfold f_X12_isAhead_b0 at h
  refine g_aload_n (pc := 0) C dX12_isAhead_0 rfl 0 rfl ?_
  refine g_get (pc := 1) C 12 (w_12 _ _) rfl 29 (Nat.le_of_ble_eq_true rfl) in_X12_X12_isAhead k66_X12_isAhead rfl dX12_isAhead_1 ?_
  refine g_bipush (pc := 4) (v := 6) C dX12_isAhead_4 (by decide) ?_
  refine g_iload_n (pc := 6) C dX12_isAhead_6 rfl 1 rfl ?_
  refine g_imul (pc := 7) C dX12_isAhead_7 ?_
  refine g_iconst (pc := 8) (v := 0) C dX12_isAhead_8 (by decide) ?_
  refine g_iadd (pc := 9) C dX12_isAhead_9 ?_
  refine g_iald (pc := 10) C 65 (w_65 _ _) h dX12_isAhead_10 (fun h => ?_)
  refine g_aload_n (pc := 11) C dX12_isAhead_11 rfl 0 rfl ?_
  refine g_get (pc := 12) C 12 (w_12 _ _) rfl 29 (Nat.le_of_ble_eq_true rfl) in_X12_X12_isAhead k66_X12_isAhead rfl dX12_isAhead_12 ?_
  refine g_bipush (pc := 15) (v := 6) C dX12_isAhead_15 (by decide) ?_
  refine g_iload_n (pc := 17) C dX12_isAhead_17 rfl 2 rfl ?_
  refine g_imul (pc := 18) C dX12_isAhead_18 ?_
  refine g_iconst (pc := 19) (v := 0) C dX12_isAhead_19 (by decide) ?_
  refine g_iadd (pc := 20) C dX12_isAhead_20 ?_
  refine g_iald (pc := 21) C 65 (w_65 _ _) h dX12_isAhead_21 (fun h => ?_)
  refine g_isub (pc := 22) C dX12_isAhead_22 ?_
  refine g_leti h (fun x1 h => ?_)
  refine g_istore_n (pc := 23) C [(3, .int x1), (0, .ref (ad X 12)), (1, .int a1), (2, .int a2)] dX12_isAhead_23 rfl (Nat.le_of_ble_eq_true rfl) rfl ?_
  refine g_iload_n (pc := 24) C dX12_isAhead_24 rfl 0 rfl ?_
  refine g_if_ne (pc := 25) (tgt := 62) C h dX12_isAhead_25 (by decide) (fun h => ?_) (fun h => ?_)
  · refine g_weak (lv1 := [(0, .ref (ad X 12)), (1, .int a1), (2, .int a2), (3, .int x1)]) [1, 2, 3, 0] rfl ?_
    exact s_X12_isAhead_b62 C a1 a2 x1  S h
  · refine g_aload_n (pc := 28) C dX12_isAhead_28 rfl 1 rfl ?_
    refine g_get (pc := 29) C 12 (w_12 _ _) rfl 2 (Nat.le_of_ble_eq_true rfl) in_X12_X12_isAhead k7_X12_isAhead rfl dX12_isAhead_29 ?_
    refine g_aload_n (pc := 32) C dX12_isAhead_32 rfl 1 rfl ?_
    refine g_get (pc := 33) C 12 (w_12 _ _) rfl 29 (Nat.le_of_ble_eq_true rfl) in_X12_X12_isAhead k66_X12_isAhead rfl dX12_isAhead_33 ?_
    refine g_bipush (pc := 36) (v := 6) C dX12_isAhead_36 (by decide) ?_
    refine g_iload_n (pc := 38) C dX12_isAhead_38 rfl 2 rfl ?_
    refine g_imul (pc := 39) C dX12_isAhead_39 ?_
    refine g_iconst (pc := 40) (v := 4) C dX12_isAhead_40 (by decide) ?_
    refine g_iadd (pc := 41) C dX12_isAhead_41 ?_
    refine g_iald (pc := 42) C 65 (w_65 _ _) h dX12_isAhead_42 (fun h => ?_)
    refine g_iald (pc := 43) C 49 (w_49 _ _) h dX12_isAhead_43 (fun h => ?_)
    refine g_aload_n (pc := 44) C dX12_isAhead_44 rfl 1 rfl ?_
    refine g_get (pc := 45) C 12 (w_12 _ _) rfl 2 (Nat.le_of_ble_eq_true rfl) in_X12_X12_isAhead k7_X12_isAhead rfl dX12_isAhead_45 ?_
    refine g_aload_n (pc := 48) C dX12_isAhead_48 rfl 1 rfl ?_
    refine g_get (pc := 49) C 12 (w_12 _ _) rfl 29 (Nat.le_of_ble_eq_true rfl) in_X12_X12_isAhead k66_X12_isAhead rfl dX12_isAhead_49 ?_
    refine g_bipush (pc := 52) (v := 6) C dX12_isAhead_52 (by decide) ?_
    refine g_iload_n (pc := 54) C dX12_isAhead_54 rfl 3 rfl ?_
    refine g_imul (pc := 55) C dX12_isAhead_55 ?_
    refine g_iconst (pc := 56) (v := 4) C dX12_isAhead_56 (by decide) ?_
    refine g_iadd (pc := 57) C dX12_isAhead_57 ?_
    refine g_iald (pc := 58) C 65 (w_65 _ _) h dX12_isAhead_58 (fun h => ?_)
    refine g_iald (pc := 59) C 49 (w_49 _ _) h dX12_isAhead_59 (fun h => ?_)
    refine g_isub (pc := 60) C dX12_isAhead_60 ?_
    refine g_leti h (fun x4 h => ?_)
    refine g_istore_n (pc := 61) C [(3, .int x4), (0, .ref (ad X 12)), (1, .int a1), (2, .int a2)] dX12_isAhead_61 rfl (Nat.le_of_ble_eq_true rfl) rfl ?_
    refine g_weak (lv1 := [(0, .ref (ad X 12)), (1, .int a1), (2, .int a2), (3, .int x4)]) [1, 2, 3, 0] rfl ?_
    exact s_X12_isAhead_b62 C a1 a2 x4  S h
theorem c_X12_isAhead (l : Launch) (b : Bw) (a1 : Int32) (a2 : Int32) (S : St) : Ct l b yX12_isAhead wsX12_isAhead rmX12_isAhead [.ref (bad b 12), .int a1, .int a2] S mkI (f_X12_isAhead a1 a2 S) := Ct.of (by decide +kernel) rfl (Nat.le_of_ble_eq_true rfl) (fun X C hl hb r h => by
  subst hl; subst hb
  exact s_X12_isAhead_b0 C a1 a2 S h)
/-! StyleRowsModel.isNote(I)Z -/
set_option maxRecDepth 100000 in
set_option maxHeartbeats 4000000 in
theorem s_X12_isNote_b0 {X : MC} (C : Cx X cX12_isNote RX12 wsX12_isNote 2 rmX12_isNote (some .boolean)) (a1 : Int32) (S : St) {r0 : Int32 × St} (h : f_X12_isNote_b0 a1 S = some r0) : G X (QM mkI X r0) S 0 [(0, .ref (ad X 12)), (1, .int a1)] [] := by
  unfold f_X12_isNote_b0 at h
  refine g_iload_n (pc := 0) C dX12_isNote_0 rfl 1 rfl ?_
  refine g_i2l (pc := 1) C dX12_isNote_1 ?_
  refine g_lconst (pc := 2) (v := 0) C dX12_isNote_2 (by decide) ?_
  refine g_aload_n (pc := 3) C dX12_isNote_3 rfl 0 rfl ?_
  refine g_get (pc := 4) C 12 (w_12 _ _) rfl 1 (Nat.le_of_ble_eq_true rfl) in_X12_X12_isNote k92_X12_isNote rfl dX12_isNote_4 ?_
  refine g_iconst (pc := 7) (v := 1) C dX12_isNote_7 (by decide) ?_
  refine g_isub (pc := 8) C dX12_isNote_8 ?_
  refine g_i2l (pc := 9) C dX12_isNote_9 ?_
  refine g_callS (pc := 10) C (c_X12_in (Xl X) (Xb X) (Int32.toInt64 a1) 0 (Int32.toInt64 ((gI S 23) - 1)) S) gX12_isNote_X12_in rfl rfl rfl hd_X12_in ⟨Nat.le_of_ble_eq_true rfl, Nat.le_of_ble_eq_true rfl⟩ rfl rfl (Nat.le_of_ble_eq_true rfl) dX12_isNote_10 h (fun r2 S1 h => ?_)
  change G X _ S1 13 [(0, .ref (ad X 12)), (1, .int a1)] [.int r2]
  exact g_zret (pc := 13) C h dX12_isNote_13
theorem c_X12_isNote (l : Launch) (b : Bw) (a1 : Int32) (S : St) : Ct l b yX12_isNote wsX12_isNote rmX12_isNote [.ref (bad b 12), .int a1] S mkI (f_X12_isNote a1 S) := Ct.of (by decide +kernel) rfl (Nat.le_of_ble_eq_true rfl) (fun X C hl hb r h => by
  subst hl; subst hb
  exact s_X12_isNote_b0 C a1 S h)
/-! StyleRowsModel.isNumber(II)Z -/
set_option maxRecDepth 100000 in
set_option maxHeartbeats 4000000 in
theorem s_X12_isNumber_b27 {X : MC} (C : Cx X cX12_isNumber RX12 wsX12_isNumber 3 rmX12_isNumber (some .boolean)) (w0 : Int32) (S : St) {r0 : Int32 × St} (h : f_X12_isNumber_b27 w0 S = some r0) : G X (QM mkI X r0) S 27 [] [.int w0] := by
  unfold f_X12_isNumber_b27 at h
  exact g_zret (pc := 27) C h dX12_isNumber_27
set_option maxRecDepth 100000 in
set_option maxHeartbeats 4000000 in
theorem s_X12_isNumber_b26 {X : MC} (C : Cx X cX12_isNumber RX12 wsX12_isNumber 3 rmX12_isNumber (some .boolean)) (S : St) {r0 : Int32 × St} (h : f_X12_isNumber_b26 S = some r0) : G X (QM mkI X r0) S 26 [] [] := by
  unfold f_X12_isNumber_b26 at h
  refine g_iconst (pc := 26) (v := 0) C dX12_isNumber_26 (by decide) ?_
  refine g_weak (lv1 := []) [] rfl ?_
  exact s_X12_isNumber_b27 C 0  S h
set_option maxRecDepth 100000 in
set_option maxHeartbeats 4000000 in
theorem s_X12_isNumber_b0 {X : MC} (C : Cx X cX12_isNumber RX12 wsX12_isNumber 3 rmX12_isNumber (some .boolean)) (a1 : Int32) (a2 : Int32) (S : St) {r0 : Int32 × St} (h : f_X12_isNumber_b0 a1 a2 S = some r0) : G X (QM mkI X r0) S 0 [(0, .ref (ad X 12)), (1, .int a1), (2, .int a2)] [] := by
  unfold f_X12_isNumber_b0 at h
  refine g_aload_n (pc := 0) C dX12_isNumber_0 rfl 0 rfl ?_
  refine g_get (pc := 1) C 12 (w_12 _ _) rfl 24 (Nat.le_of_ble_eq_true rfl) in_X12_X12_isNumber k151_X12_isNumber rfl dX12_isNumber_1 ?_
  refine g_iconst (pc := 4) (v := 2) C dX12_isNumber_4 (by decide) ?_
  refine g_icmp_ne (pc := 5) (tgt := 26) C h dX12_isNumber_5 (by decide) (fun h => ?_) (fun h => ?_)
  · refine g_weak (lv1 := []) [] rfl ?_
    exact s_X12_isNumber_b26 C   S h
  · refine g_aload_n (pc := 8) C dX12_isNumber_8 rfl 0 rfl ?_
    refine g_get (pc := 9) C 12 (w_12 _ _) rfl 27 (Nat.le_of_ble_eq_true rfl) in_X12_X12_isNumber k144_X12_isNumber rfl dX12_isNumber_9 ?_
    refine g_iload_n (pc := 12) C dX12_isNumber_12 rfl 1 rfl ?_
    refine g_i2l (pc := 13) C dX12_isNumber_13 ?_
    refine g_iload_n (pc := 14) C dX12_isNumber_14 rfl 2 rfl ?_
    refine g_i2l (pc := 15) C dX12_isNumber_15 ?_
    refine g_callS (pc := 16) C (c_X12_in (Xl X) (Xb X) (gJ S 2) (Int32.toInt64 a1) (Int32.toInt64 a2) S) gX12_isNumber_X12_in rfl rfl rfl hd_X12_in ⟨Nat.le_of_ble_eq_true rfl, Nat.le_of_ble_eq_true rfl⟩ rfl rfl (Nat.le_of_ble_eq_true rfl) dX12_isNumber_16 h (fun r2 S1 h => ?_)
    change G X _ S1 19 [(0, .ref (ad X 12)), (1, .int a1), (2, .int a2)] [.int r2]
    refine g_if_eq (pc := 19) (tgt := 26) C h dX12_isNumber_19 (by decide) (fun h => ?_) (fun h => ?_)
    · refine g_weak (lv1 := []) [] rfl ?_
      exact s_X12_isNumber_b26 C   S1 h
    · refine g_iconst (pc := 22) (v := 1) C dX12_isNumber_22 (by decide) ?_
      refine g_goto (pc := 23) (tgt := 27) C dX12_isNumber_23 (by decide) ?_
      refine g_weak (lv1 := []) [] rfl ?_
      exact s_X12_isNumber_b27 C 1  S1 h
theorem c_X12_isNumber (l : Launch) (b : Bw) (a1 : Int32) (a2 : Int32) (S : St) : Ct l b yX12_isNumber wsX12_isNumber rmX12_isNumber [.ref (bad b 12), .int a1, .int a2] S mkI (f_X12_isNumber a1 a2 S) := Ct.of (by decide +kernel) rfl (Nat.le_of_ble_eq_true rfl) (fun X C hl hb r h => by
  subst hl; subst hb
  exact s_X12_isNumber_b0 C a1 a2 S h)
/-! StyleRowsModel.lesser(II)I -/
set_option maxRecDepth 100000 in
set_option maxHeartbeats 4000000 in
theorem s_X12_lesser_b10 {X : MC} (C : Cx X cX12_lesser RX12 wsX12_lesser 2 rmX12_lesser (some .int)) (w0 : Int32) (S : St) {r0 : Int32 × St} (h : f_X12_lesser_b10 w0 S = some r0) : G X (QM mkI X r0) S 10 [] [.int w0] := by
  unfold f_X12_lesser_b10 at h
  exact g_iret (pc := 10) C h dX12_lesser_10
set_option maxRecDepth 100000 in
set_option maxHeartbeats 4000000 in
theorem s_X12_lesser_b0 {X : MC} (C : Cx X cX12_lesser RX12 wsX12_lesser 2 rmX12_lesser (some .int)) (a1 : Int32) (a2 : Int32) (S : St) {r0 : Int32 × St} (h : f_X12_lesser_b0 a1 a2 S = some r0) : G X (QM mkI X r0) S 0 [(0, .int a1), (1, .int a2)] [] := by
  unfold f_X12_lesser_b0 at h
  refine g_iload_n (pc := 0) C dX12_lesser_0 rfl 0 rfl ?_
  refine g_iload_n (pc := 1) C dX12_lesser_1 rfl 1 rfl ?_
  refine g_icmp_ge (pc := 2) (tgt := 9) C h dX12_lesser_2 (by decide) (fun h => ?_) (fun h => ?_)
  · refine g_iload_n (pc := 9) C dX12_lesser_9 rfl 1 rfl ?_
    refine g_weak (lv1 := []) [] rfl ?_
    exact s_X12_lesser_b10 C a2  S h
  · refine g_iload_n (pc := 5) C dX12_lesser_5 rfl 0 rfl ?_
    refine g_goto (pc := 6) (tgt := 10) C dX12_lesser_6 (by decide) ?_
    refine g_weak (lv1 := []) [] rfl ?_
    exact s_X12_lesser_b10 C a1  S h
theorem c_X12_lesser (l : Launch) (b : Bw) (a1 : Int32) (a2 : Int32) (S : St) : Ct l b yX12_lesser wsX12_lesser rmX12_lesser [.int a1, .int a2] S mkI (f_X12_lesser a1 a2 S) := Ct.of (by decide +kernel) rfl (Nat.le_of_ble_eq_true rfl) (fun X C hl hb r h => by
  subst hl; subst hb
  exact s_X12_lesser_b0 C a1 a2 S h)
/-! StyleRowsModel.level(IIZ)I -/
set_option maxRecDepth 100000 in
set_option maxHeartbeats 4000000 in
theorem s_X12_level_b24 {X : MC} (C : Cx X cX12_level RX12 wsX12_level 6 rmX12_level (some .int)) (S : St) {r0 : Int32 × St} (h : f_X12_level_b24 S = some r0) : G X (QM mkI X r0) S 24 [] [] := by
  unfold f_X12_level_b24 at h
  refine g_sipush (pc := 24) (v := (-1002)) C dX12_level_24 (by decide) ?_
  exact g_iret (pc := 27) C h dX12_level_27
set_option maxRecDepth 100000 in
set_option maxHeartbeats 4000000 in
theorem s_X12_level_b110 {X : MC} (C : Cx X cX12_level RX12 wsX12_level 6 rmX12_level (some .int)) (v1 : Int32) (v2 : Int32) (v3 : Int32) (v4 : Int32) (S : St) {r0 : Int32 × St} (h : f_X12_level_b110 v1 v2 v3 v4 S = some r0) : G X (QM mkI X r0) S 110 [(0, .ref (ad X 12)), (1, .int v1), (2, .int v2), (3, .int v3), (4, .int v4)] [] := by
  unfold f_X12_level_b110 at h
  refine g_aload_n (pc := 110) C dX12_level_110 rfl 0 rfl ?_
  refine g_get (pc := 111) C 12 (w_12 _ _) rfl 8 (Nat.le_of_ble_eq_true rfl) in_X12_X12_level k25_X12_level rfl dX12_level_111 ?_
  refine g_iload (pc := 114) C dX12_level_114 4 rfl ?_
  refine g_iload_n (pc := 116) C dX12_level_116 rfl 1 rfl ?_
  refine g_iast (pc := 117) C 54 (w_54 _ _) (ws_54 _ _) h dX12_level_117 (fun S5 h => ?_)
  refine g_aload_n (pc := 118) C dX12_level_118 rfl 0 rfl ?_
  refine g_get (pc := 119) C 12 (w_12 _ _) rfl 9 (Nat.le_of_ble_eq_true rfl) in_X12_X12_level k28_X12_level rfl dX12_level_119 ?_
  refine g_iload (pc := 122) C dX12_level_122 4 rfl ?_
  refine g_iload_n (pc := 124) C dX12_level_124 rfl 2 rfl ?_
  refine g_iast (pc := 125) C 55 (w_55 _ _) (ws_55 _ _) h dX12_level_125 (fun S6 h => ?_)
  refine g_aload_n (pc := 126) C dX12_level_126 rfl 0 rfl ?_
  refine g_get (pc := 127) C 12 (w_12 _ _) rfl 10 (Nat.le_of_ble_eq_true rfl) in_X12_X12_level k31_X12_level rfl dX12_level_127 ?_
  refine g_iload (pc := 130) C dX12_level_130 4 rfl ?_
  refine g_iload_n (pc := 132) C dX12_level_132 rfl 3 rfl ?_
  refine g_zast (pc := 133) C 56 (w_56 _ _) (ws_56 _ _) h dX12_level_133 (fun S7 h => ?_)
  refine g_aload_n (pc := 134) C dX12_level_134 rfl 0 rfl ?_
  refine g_get (pc := 135) C 12 (w_12 _ _) rfl 7 (Nat.le_of_ble_eq_true rfl) in_X12_X12_level k101_X12_level rfl dX12_level_135 ?_
  exact g_iret (pc := 138) C h dX12_level_138
set_option maxRecDepth 100000 in
set_option maxHeartbeats 4000000 in
theorem s_X12_level_b88 {X : MC} (C : Cx X cX12_level RX12 wsX12_level 6 rmX12_level (some .int)) (v1 : Int32) (v2 : Int32) (v3 : Int32) (v4 : Int32) (S : St) {r0 : Int32 × St} (h : f_X12_level_b88 v1 v2 v3 v4 S = some r0) : G X (QM mkI X r0) S 88 [(0, .ref (ad X 12)), (1, .int v1), (2, .int v2), (3, .int v3), (4, .int v4)] [] := by
  unfold f_X12_level_b88 at h
  refine g_iload (pc := 88) C dX12_level_88 4 rfl ?_
  refine g_iconst (pc := 90) (v := (-1)) C dX12_level_90 (by decide) ?_
  refine g_icmp_ne (pc := 91) (tgt := 110) C h dX12_level_91 (by decide) (fun h => ?_) (fun h => ?_)
  · refine g_weak (lv1 := [(0, .ref (ad X 12)), (1, .int v1), (2, .int v2), (3, .int v3), (4, .int v4)]) [0, 1, 2, 3, 4] rfl ?_
    exact s_X12_level_b110 C v1 v2 v3 v4  S h
  · refine g_aload_n (pc := 94) C dX12_level_94 rfl 0 rfl ?_
    refine g_get (pc := 95) C 12 (w_12 _ _) rfl 7 (Nat.le_of_ble_eq_true rfl) in_X12_X12_level k101_X12_level rfl dX12_level_95 ?_
    refine g_leti h (fun x8 h => ?_)
    refine g_istore (pc := 98) C [(4, .int x8), (0, .ref (ad X 12)), (1, .int v1), (2, .int v2), (3, .int v3)] dX12_level_98 (Nat.le_of_ble_eq_true rfl) rfl ?_
    refine g_aload_n (pc := 100) C dX12_level_100 rfl 1 rfl ?_
    refine g_dup (pc := 101) C dX12_level_101 rfl ?_
    refine g_get (pc := 102) C 12 (w_12 _ _) rfl 7 (Nat.le_of_ble_eq_true rfl) in_X12_X12_level k101_X12_level rfl dX12_level_102 ?_
    refine g_iconst (pc := 105) (v := 1) C dX12_level_105 (by decide) ?_
    refine g_iadd (pc := 106) C dX12_level_106 ?_
    refine g_put (pc := 107) C 12 (w_12 _ _) rfl 7 (Nat.le_of_ble_eq_true rfl) in_X12_X12_level tyX12_ok nmX12 k101_X12_level rfl rfl rfl (Nat.le_of_ble_eq_true rfl) (ws_12_7 _ _ _) dX12_level_107 h (fun S9 h => ?_)
    refine g_weak (lv1 := [(0, .ref (ad X 12)), (1, .int v1), (2, .int v2), (3, .int v3), (4, .int x8)]) [1, 2, 3, 4, 0] rfl ?_
    exact s_X12_level_b110 C v1 v2 v3 x8  S9 h
set_option maxRecDepth 100000 in
set_option maxHeartbeats 4000000 in
theorem s_X12_level_b61 {X : MC} (C : Cx X cX12_level RX12 wsX12_level 6 rmX12_level (some .int)) {rec34 : Int32 × Int32 × St → Option (Int32 × St)} (v1 : Int32) (v2 : Int32) (v3 : Int32) (v5 : Int32) (w0 : Int32) (hrec34 : ∀ (s : Int32 × Int32 × St) (r : Int32 × St), rec34 s = some r → G X (QM mkI X r) s.2.2 34 [(0, .ref (ad X 12)), (1, .int v1), (2, .int v2), (3, .int v3), (4, .int (s.1)), (5, .int (s.2.1))] []) (S : St) {r0 : Int32 × St} (h : f_X12_level_b61 rec34 v1 v2 v3 v5 w0 S = some r0) : G X (QM mkI X r0) S 61 [(0, .ref (ad X 12)), (1, .int v1), (2, .int v2), (3, .int v3), (5, .int v5)] [.int w0] := by
  unfold f_X12_level_b61 at h
  refine g_istore (pc := 61) C [(4, .int w0), (0, .ref (ad X 12)), (1, .int v1), (2, .int v2), (3, .int v3), (5, .int v5)] dX12_level_61 (Nat.le_of_ble_eq_true rfl) rfl ?_
  refine g_iinc (pc := 63) (v := v5 + 1) C [(5, .int (v5 + 1)), (4, .int w0), (0, .ref (ad X 12)), (1, .int v1), (2, .int v2), (3, .int v3)] dX12_level_63 5 rfl rfl (Nat.le_of_ble_eq_true rfl) rfl ?_
  refine g_goto (pc := 66) (tgt := 34) C dX12_level_66 (by decide) ?_
  refine g_weak (lv1 := [(0, .ref (ad X 12)), (1, .int v1), (2, .int v2), (3, .int v3), (4, .int w0), (5, .int (v5 + 1))]) [2, 3, 4, 5, 1, 0] rfl ?_
  exact hrec34 (w0, v5 + 1, S) _ h
set_option maxRecDepth 100000 in
set_option maxHeartbeats 4000000 in
theorem s_X12_level_b34 {X : MC} (C : Cx X cX12_level RX12 wsX12_level 6 rmX12_level (some .int)) {rec34 : Int32 × Int32 × St → Option (Int32 × St)} (v1 : Int32) (v2 : Int32) (v3 : Int32) (v4 : Int32) (v5 : Int32) (hrec34 : ∀ (s : Int32 × Int32 × St) (r : Int32 × St), rec34 s = some r → G X (QM mkI X r) s.2.2 34 [(0, .ref (ad X 12)), (1, .int v1), (2, .int v2), (3, .int v3), (4, .int (s.1)), (5, .int (s.2.1))] []) (S : St) {r0 : Int32 × St} (h : f_X12_level_b34 rec34 v1 v2 v3 v4 v5 S = some r0) : G X (QM mkI X r0) S 34 [(0, .ref (ad X 12)), (1, .int v1), (2, .int v2), (3, .int v3), (4, .int v4), (5, .int v5)] [] := by
  unfold f_X12_level_b34 at h
  refine g_iload (pc := 34) C dX12_level_34 5 rfl ?_
  refine g_aload_n (pc := 36) C dX12_level_36 rfl 0 rfl ?_
  refine g_get (pc := 37) C 12 (w_12 _ _) rfl 7 (Nat.le_of_ble_eq_true rfl) in_X12_X12_level k101_X12_level rfl dX12_level_37 ?_
  refine g_icmp_ge (pc := 40) (tgt := 69) C h dX12_level_40 (by decide) (fun h => ?_) (fun h => ?_)
  · refine g_iload (pc := 69) C dX12_level_69 4 rfl ?_
    refine g_iconst (pc := 71) (v := (-1)) C dX12_level_71 (by decide) ?_
    refine g_icmp_ne (pc := 72) (tgt := 88) C h dX12_level_72 (by decide) (fun h => ?_) (fun h => ?_)
    · refine g_weak (lv1 := [(0, .ref (ad X 12)), (1, .int v1), (2, .int v2), (3, .int v3), (4, .int v4)]) [0, 1, 2, 3, 4] rfl ?_
      exact s_X12_level_b88 C v1 v2 v3 v4  S h
    · refine g_aload_n (pc := 75) C dX12_level_75 rfl 0 rfl ?_
      refine g_get (pc := 76) C 12 (w_12 _ _) rfl 7 (Nat.le_of_ble_eq_true rfl) in_X12_X12_level k101_X12_level rfl dX12_level_76 ?_
      refine g_bipush (pc := 79) (v := 12) C dX12_level_79 (by decide) ?_
      refine g_icmp_ne (pc := 81) (tgt := 88) C h dX12_level_81 (by decide) (fun h => ?_) (fun h => ?_)
      · refine g_weak (lv1 := [(0, .ref (ad X 12)), (1, .int v1), (2, .int v2), (3, .int v3), (4, .int v4)]) [0, 1, 2, 3, 4] rfl ?_
        exact s_X12_level_b88 C v1 v2 v3 v4  S h
      · refine g_sipush (pc := 84) (v := (-1004)) C dX12_level_84 (by decide) ?_
        exact g_iret (pc := 87) C h dX12_level_87
  · refine g_aload_n (pc := 43) C dX12_level_43 rfl 0 rfl ?_
    refine g_get (pc := 44) C 12 (w_12 _ _) rfl 8 (Nat.le_of_ble_eq_true rfl) in_X12_X12_level k25_X12_level rfl dX12_level_44 ?_
    refine g_iload (pc := 47) C dX12_level_47 5 rfl ?_
    refine g_iald (pc := 49) C 54 (w_54 _ _) h dX12_level_49 (fun h => ?_)
    refine g_iload_n (pc := 50) C dX12_level_50 rfl 1 rfl ?_
    refine g_icmp_ne (pc := 51) (tgt := 59) C h dX12_level_51 (by decide) (fun h => ?_) (fun h => ?_)
    · refine g_iload (pc := 59) C dX12_level_59 4 rfl ?_
      refine g_weak (lv1 := [(0, .ref (ad X 12)), (1, .int v1), (2, .int v2), (3, .int v3), (5, .int v5)]) [0, 1, 2, 3, 5] rfl ?_
      exact s_X12_level_b61 C v1 v2 v3 v5 v4 hrec34  S h
    · refine g_iload (pc := 54) C dX12_level_54 5 rfl ?_
      refine g_goto (pc := 56) (tgt := 61) C dX12_level_56 (by decide) ?_
      refine g_weak (lv1 := [(0, .ref (ad X 12)), (1, .int v1), (2, .int v2), (3, .int v3), (5, .int v5)]) [0, 1, 2, 3, 5] rfl ?_
      exact s_X12_level_b61 C v1 v2 v3 v5 v5 hrec34  S h
set_option maxRecDepth 100000 in
set_option maxHeartbeats 4000000 in
theorem s_X12_level_l34 {X : MC} (C : Cx X cX12_level RX12 wsX12_level 6 rmX12_level (some .int)) (v1 : Int32) (v2 : Int32) (v3 : Int32) : ∀ (n : Nat) (s : Int32 × Int32 × St) (r : Int32 × St), f_X12_level_l34 v1 v2 v3 n s = some r → G X (QM mkI X r) s.2.2 34 [(0, .ref (ad X 12)), (1, .int v1), (2, .int v2), (3, .int v3), (4, .int (s.1)), (5, .int (s.2.1))] [] :=
  loop_sound (fun rec34 hrec34 s r h => s_X12_level_b34 C v1 v2 v3 s.1 s.2.1 hrec34 s.2.2 h)
set_option maxRecDepth 100000 in
set_option maxHeartbeats 4000000 in
theorem s_X12_level_b0 {X : MC} (C : Cx X cX12_level RX12 wsX12_level 6 rmX12_level (some .int)) (a1 : Int32) (a2 : Int32) (a3 : Int32) (S : St) {r0 : Int32 × St} (h : f_X12_level_b0 a1 a2 a3 S = some r0) : G X (QM mkI X r0) S 0 [(0, .ref (ad X 12)), (1, .int a1), (2, .int a2), (3, .int a3)] [] := by
  unfold f_X12_level_b0 at h
  refine g_iload_n (pc := 0) C dX12_level_0 rfl 1 rfl ?_
  refine g_i2l (pc := 1) C dX12_level_1 ?_
  refine g_lconst (pc := 2) (v := 0) C dX12_level_2 (by decide) ?_
  refine g_ldc2 (pc := 3) (v := 20000) C k99_X12_level dX12_level_3 ?_
  refine g_callS (pc := 6) C (c_X12_in (Xl X) (Xb X) (Int32.toInt64 a1) 0 20000 S) gX12_level_X12_in rfl rfl rfl hd_X12_in ⟨Nat.le_of_ble_eq_true rfl, Nat.le_of_ble_eq_true rfl⟩ rfl rfl (Nat.le_of_ble_eq_true rfl) dX12_level_6 h (fun r2 S1 h => ?_)
  change G X _ S1 9 [(0, .ref (ad X 12)), (1, .int a1), (2, .int a2), (3, .int a3)] [.int r2]
  refine g_if_eq (pc := 9) (tgt := 24) C h dX12_level_9 (by decide) (fun h => ?_) (fun h => ?_)
  · refine g_weak (lv1 := []) [] rfl ?_
    exact s_X12_level_b24 C   S1 h
  · refine g_iload_n (pc := 12) C dX12_level_12 rfl 2 rfl ?_
    refine g_i2l (pc := 13) C dX12_level_13 ?_
    refine g_lconst (pc := 14) (v := 1) C dX12_level_14 (by decide) ?_
    refine g_ldc2 (pc := 15) (v := 127) C k90_X12_level dX12_level_15 ?_
    refine g_callS (pc := 18) C (c_X12_in (Xl X) (Xb X) (Int32.toInt64 a2) 1 127 S1) gX12_level_X12_in rfl rfl rfl hd_X12_in ⟨Nat.le_of_ble_eq_true rfl, Nat.le_of_ble_eq_true rfl⟩ rfl rfl (Nat.le_of_ble_eq_true rfl) dX12_level_18 h (fun r4 S3 h => ?_)
    change G X _ S3 21 [(0, .ref (ad X 12)), (1, .int a1), (2, .int a2), (3, .int a3)] [.int r4]
    refine g_if_ne (pc := 21) (tgt := 28) C h dX12_level_21 (by decide) (fun h => ?_) (fun h => ?_)
    · refine g_iconst (pc := 28) (v := (-1)) C dX12_level_28 (by decide) ?_
      refine g_istore (pc := 29) C [(4, .int (-1)), (0, .ref (ad X 12)), (1, .int a1), (2, .int a2), (3, .int a3)] dX12_level_29 (Nat.le_of_ble_eq_true rfl) rfl ?_
      refine g_iconst (pc := 31) (v := 0) C dX12_level_31 (by decide) ?_
      refine g_istore (pc := 32) C [(5, .int 0), (4, .int (-1)), (0, .ref (ad X 12)), (1, .int a1), (2, .int a2), (3, .int a3)] dX12_level_32 (Nat.le_of_ble_eq_true rfl) rfl ?_
      refine g_weak (lv1 := [(0, .ref (ad X 12)), (1, .int a1), (2, .int a2), (3, .int a3), (4, .int (-1)), (5, .int 0)]) [2, 3, 4, 5, 1, 0] rfl ?_
      exact s_X12_level_l34 C a1 a2 a3 _ ((-1), 0, S3) _ h
    · refine g_weak (lv1 := []) [] rfl ?_
      exact s_X12_level_b24 C   S3 h
theorem c_X12_level (l : Launch) (b : Bw) (a1 : Int32) (a2 : Int32) (a3 : Int32) (S : St) : Ct l b yX12_level wsX12_level rmX12_level [.ref (bad b 12), .int a1, .int a2, .int a3] S mkI (f_X12_level a1 a2 a3 S) := Ct.of (by decide +kernel) rfl (Nat.le_of_ble_eq_true rfl) (fun X C hl hb r h => by
  subst hl; subst hb
  exact s_X12_level_b0 C a1 a2 a3 S h)
/-! StyleRowsModel.levelAt(I)I -/
set_option maxRecDepth 100000 in
set_option maxHeartbeats 4000000 in
theorem s_X12_levelAt_b23 {X : MC} (C : Cx X cX12_levelAt RX12 wsX12_levelAt 2 rmX12_levelAt (some .int)) (w0 : Int32) (S : St) {r0 : Int32 × St} (h : f_X12_levelAt_b23 w0 S = some r0) : G X (QM mkI X r0) S 23 [] [.int w0] := by
  unfold f_X12_levelAt_b23 at h
  exact g_iret (pc := 23) C h dX12_levelAt_23
set_option maxRecDepth 100000 in
set_option maxHeartbeats 4000000 in
theorem s_X12_levelAt_b0 {X : MC} (C : Cx X cX12_levelAt RX12 wsX12_levelAt 2 rmX12_levelAt (some .int)) (a1 : Int32) (S : St) {r0 : Int32 × St} (h : f_X12_levelAt_b0 a1 S = some r0) : G X (QM mkI X r0) S 0 [(0, .ref (ad X 12)), (1, .int a1)] [] := by
  unfold f_X12_levelAt_b0 at h
  refine g_iload_n (pc := 0) C dX12_levelAt_0 rfl 1 rfl ?_
  refine g_i2l (pc := 1) C dX12_levelAt_1 ?_
  refine g_lconst (pc := 2) (v := 0) C dX12_levelAt_2 (by decide) ?_
  refine g_ldc2 (pc := 3) (v := 20000) C k99_X12_levelAt dX12_levelAt_3 ?_
  refine g_callS (pc := 6) C (c_X12_in (Xl X) (Xb X) (Int32.toInt64 a1) 0 20000 S) gX12_levelAt_X12_in rfl rfl rfl hd_X12_in ⟨Nat.le_of_ble_eq_true rfl, Nat.le_of_ble_eq_true rfl⟩ rfl rfl (Nat.le_of_ble_eq_true rfl) dX12_levelAt_6 h (fun r2 S1 h => ?_)
  change G X _ S1 9 [(0, .ref (ad X 12)), (1, .int a1)] [.int r2]
  refine g_if_eq (pc := 9) (tgt := 20) C h dX12_levelAt_9 (by decide) (fun h => ?_) (fun h => ?_)
  · refine g_sipush (pc := 20) (v := (-1002)) C dX12_levelAt_20 (by decide) ?_
    refine g_weak (lv1 := []) [] rfl ?_
    exact s_X12_levelAt_b23 C (-1002)  S1 h
  · refine g_aload_n (pc := 12) C dX12_levelAt_12 rfl 0 rfl ?_
    refine g_iload_n (pc := 13) C dX12_levelAt_13 rfl 1 rfl ?_
    refine g_callV (pc := 14) C 12 (c_X12_highAt (Xl X) (Xb X) a1 S1) gX12_levelAt_X12_highAt rfl rfl rfl hd_X12_highAt ⟨Nat.le_of_ble_eq_true rfl, Nat.le_of_ble_eq_true rfl⟩ (w_12 _ _) rfl rfl rfl (Nat.le_of_ble_eq_true rfl) dX12_levelAt_14 h (fun r4 S3 h => ?_)
    change G X _ S3 17 [(0, .ref (ad X 12)), (1, .int a1)] [.int r4]
    refine g_goto (pc := 17) (tgt := 23) C dX12_levelAt_17 (by decide) ?_
    refine g_weak (lv1 := []) [] rfl ?_
    exact s_X12_levelAt_b23 C r4  S3 h
theorem c_X12_levelAt (l : Launch) (b : Bw) (a1 : Int32) (S : St) : Ct l b yX12_levelAt wsX12_levelAt rmX12_levelAt [.ref (bad b 12), .int a1] S mkI (f_X12_levelAt a1 S) := Ct.of (by decide +kernel) rfl (Nat.le_of_ble_eq_true rfl) (fun X C hl hb r h => by
  subst hl; subst hb
  exact s_X12_levelAt_b0 C a1 S h)
/-! StyleRowsModel.usual(I)I -/
set_option maxRecDepth 100000 in
set_option maxHeartbeats 4000000 in
theorem s_X12_usual_b96 {X : MC} (C : Cx X cX12_usual RX12 wsX12_usual 1 rmX12_usual (some .int)) (S : St) {r0 : Int32 × St} (h : f_X12_usual_b96 S = some r0) : G X (QM mkI X r0) S 96 [] [] := by
  unfold f_X12_usual_b96 at h
  refine g_iconst (pc := 96) (v := 0) C dX12_usual_96 (by decide) ?_
  exact g_iret (pc := 97) C h dX12_usual_97
set_option maxRecDepth 100000 in
set_option maxHeartbeats 4000000 in
theorem s_X12_usual_b0 {X : MC} (C : Cx X cX12_usual RX12 wsX12_usual 1 rmX12_usual (some .int)) (a1 : Int32) (S : St) {r0 : Int32 × St} (h : f_X12_usual_b0 a1 S = some r0) : G X (QM mkI X r0) S 0 [(0, .int a1)] [] := by
  unfold f_X12_usual_b0 at h
  refine g_iload_n (pc := 0) C dX12_usual_0 rfl 0 rfl ?_
  by_cases hq1 : a1 = 0
  · replace h := ite_t h hq1
    refine g_swIn (pc := 1) (tgt := 64) C 0 hq1 dX12_usual_1 (by decide) (by decide) rfl (by decide) ?_
    refine g_bipush (pc := 64) (v := 50) C dX12_usual_64 (by decide) ?_
    exact g_iret (pc := 66) C h dX12_usual_66
  replace h := ite_f h hq1
  by_cases hq2 : a1 = 1
  · replace h := ite_t h hq2
    refine g_swIn (pc := 1) (tgt := 67) C 1 hq2 dX12_usual_1 (by decide) (by decide) rfl (by decide) ?_
    refine g_bipush (pc := 67) (v := 90) C dX12_usual_67 (by decide) ?_
    exact g_iret (pc := 69) C h dX12_usual_69
  replace h := ite_f h hq2
  by_cases hq3 : a1 = 2
  · replace h := ite_t h hq3
    refine g_swIn (pc := 1) (tgt := 70) C 2 hq3 dX12_usual_1 (by decide) (by decide) rfl (by decide) ?_
    refine g_bipush (pc := 70) (v := 100) C dX12_usual_70 (by decide) ?_
    exact g_iret (pc := 72) C h dX12_usual_72
  replace h := ite_f h hq3
  by_cases hq4 : a1 = 3
  · replace h := ite_t h hq4
    refine g_swIn (pc := 1) (tgt := 73) C 3 hq4 dX12_usual_1 (by decide) (by decide) rfl (by decide) ?_
    refine g_bipush (pc := 73) (v := 10) C dX12_usual_73 (by decide) ?_
    exact g_iret (pc := 75) C h dX12_usual_75
  replace h := ite_f h hq4
  by_cases hq5 : a1 = 4
  · replace h := ite_t h hq5
    refine g_swIn (pc := 1) (tgt := 76) C 4 hq5 dX12_usual_1 (by decide) (by decide) rfl (by decide) ?_
    refine g_bipush (pc := 76) (v := 16) C dX12_usual_76 (by decide) ?_
    exact g_iret (pc := 78) C h dX12_usual_78
  replace h := ite_f h hq5
  by_cases hq6 : a1 = 5
  · replace h := ite_t h hq6
    refine g_swIn (pc := 1) (tgt := 79) C 5 hq6 dX12_usual_1 (by decide) (by decide) rfl (by decide) ?_
    refine g_bipush (pc := 79) (v := 8) C dX12_usual_79 (by decide) ?_
    exact g_iret (pc := 81) C h dX12_usual_81
  replace h := ite_f h hq6
  by_cases hq7 : a1 = 6
  · replace h := ite_t h hq7
    refine g_swIn (pc := 1) (tgt := 82) C 6 hq7 dX12_usual_1 (by decide) (by decide) rfl (by decide) ?_
    refine g_iconst (pc := 82) (v := 4) C dX12_usual_82 (by decide) ?_
    exact g_iret (pc := 83) C h dX12_usual_83
  replace h := ite_f h hq7
  by_cases hq8 : a1 = 7
  · replace h := ite_t h hq8
    refine g_swIn (pc := 1) (tgt := 84) C 7 hq8 dX12_usual_1 (by decide) (by decide) rfl (by decide) ?_
    refine g_bipush (pc := 84) (v := 30) C dX12_usual_84 (by decide) ?_
    exact g_iret (pc := 86) C h dX12_usual_86
  replace h := ite_f h hq8
  by_cases hq9 : a1 = 8
  · replace h := ite_t h hq9
    refine g_swIn (pc := 1) (tgt := 96) C 8 hq9 dX12_usual_1 (by decide) (by decide) rfl (by decide) ?_
    refine g_weak (lv1 := []) [] rfl ?_
    exact s_X12_usual_b96 C   S h
  replace h := ite_f h hq9
  by_cases hq10 : a1 = 9
  · replace h := ite_t h hq10
    refine g_swIn (pc := 1) (tgt := 87) C 9 hq10 dX12_usual_1 (by decide) (by decide) rfl (by decide) ?_
    refine g_bipush (pc := 87) (v := 20) C dX12_usual_87 (by decide) ?_
    exact g_iret (pc := 89) C h dX12_usual_89
  replace h := ite_f h hq10
  by_cases hq11 : a1 = 10
  · replace h := ite_t h hq11
    refine g_swIn (pc := 1) (tgt := 90) C 10 hq11 dX12_usual_1 (by decide) (by decide) rfl (by decide) ?_
    refine g_bipush (pc := 90) (v := 40) C dX12_usual_90 (by decide) ?_
    exact g_iret (pc := 92) C h dX12_usual_92
  replace h := ite_f h hq11
  by_cases hq12 : a1 = 11
  · replace h := ite_t h hq12
    refine g_swIn (pc := 1) (tgt := 93) C 11 hq12 dX12_usual_1 (by decide) (by decide) rfl (by decide) ?_
    refine g_bipush (pc := 93) (v := 12) C dX12_usual_93 (by decide) ?_
    exact g_iret (pc := 95) C h dX12_usual_95
  replace h := ite_f h hq12
  refine g_swOut (pc := 1) (tgt := 96) C (sw_out_11 hq1 hq2 hq3 hq4 hq5 hq6 hq7 hq8 hq9 hq10 hq11 hq12) dX12_usual_1 (by decide) ?_
  refine g_weak (lv1 := []) [] rfl ?_
  exact s_X12_usual_b96 C   S h
theorem c_X12_usual (l : Launch) (b : Bw) (a1 : Int32) (S : St) : Ct l b yX12_usual wsX12_usual rmX12_usual [.int a1] S mkI (f_X12_usual a1 S) := Ct.of (by decide +kernel) rfl (Nat.le_of_ble_eq_true rfl) (fun X C hl hb r h => by
  subst hl; subst hb
  exact s_X12_usual_b0 C a1 S h)
/-! StyleRowsModel.number(II)I -/
set_option maxRecDepth 100000 in
set_option maxHeartbeats 4000000 in
theorem s_X12_number_b25 {X : MC} (C : Cx X cX12_number RX12 wsX12_number 4 rmX12_number (some .int)) (w0 : Int32) (S : St) {r0 : Int32 × St} (h : f_X12_number_b25 w0 S = some r0) : G X (QM mkI X r0) S 25 [] [.int w0] := by
  unfold f_X12_number_b25 at h
  exact g_iret (pc := 25) C h dX12_number_25
set_option maxRecDepth 100000 in
set_option maxHeartbeats 4000000 in
theorem s_X12_number_b0 {X : MC} (C : Cx X cX12_number RX12 wsX12_number 4 rmX12_number (some .int)) (a1 : Int32) (a2 : Int32) (S : St) {r0 : Int32 × St} (h : f_X12_number_b0 a1 a2 S = some r0) : G X (QM mkI X r0) S 0 [(0, .ref (ad X 12)), (1, .int a1), (2, .int a2)] [] := by
  unfold f_X12_number_b0 at h
  refine g_aload_n (pc := 0) C dX12_number_0 rfl 0 rfl ?_
  refine g_iload_n (pc := 1) C dX12_number_1 rfl 1 rfl ?_
  refine g_iload_n (pc := 2) C dX12_number_2 rfl 2 rfl ?_
  refine g_callV (pc := 3) C 12 (c_X12_counts (Xl X) (Xb X) a1 a2 S) gX12_number_X12_counts rfl rfl rfl hd_X12_counts ⟨Nat.le_of_ble_eq_true rfl, Nat.le_of_ble_eq_true rfl⟩ (w_12 _ _) rfl rfl rfl (Nat.le_of_ble_eq_true rfl) dX12_number_3 h (fun r2 S1 h => ?_)
  change G X _ S1 6 [(0, .ref (ad X 12)), (1, .int a1), (2, .int a2)] [.int r2]
  refine g_istore_n (pc := 6) C [(3, .int r2), (0, .ref (ad X 12)), (1, .int a1), (2, .int a2)] dX12_number_6 rfl (Nat.le_of_ble_eq_true rfl) rfl ?_
  refine g_iload_n (pc := 7) C dX12_number_7 rfl 0 rfl ?_
  refine g_iconst (pc := 8) (v := (-1)) C dX12_number_8 (by decide) ?_
  refine g_icmp_ne (pc := 9) (tgt := 19) C h dX12_number_9 (by decide) (fun h => ?_) (fun h => ?_)
  · refine g_aload_n (pc := 19) C dX12_number_19 rfl 1 rfl ?_
    refine g_get (pc := 20) C 12 (w_12 _ _) rfl 20 (Nat.le_of_ble_eq_true rfl) in_X12_X12_number k57_X12_number rfl dX12_number_20 ?_
    refine g_iload_n (pc := 23) C dX12_number_23 rfl 0 rfl ?_
    refine g_iald (pc := 24) C 62 (w_62 _ _) h dX12_number_24 (fun h => ?_)
    refine g_weak (lv1 := []) [] rfl ?_
    exact s_X12_number_b25 C (rd S1 62 r2)  S1 h
  · refine g_iload_n (pc := 12) C dX12_number_12 rfl 3 rfl ?_
    refine g_callS (pc := 13) C (c_X12_usual (Xl X) (Xb X) a2 S1) gX12_number_X12_usual rfl rfl rfl hd_X12_usual ⟨Nat.le_of_ble_eq_true rfl, Nat.le_of_ble_eq_true rfl⟩ rfl rfl (Nat.le_of_ble_eq_true rfl) dX12_number_13 h (fun r4 S3 h => ?_)
    change G X _ S3 16 [(3, .int r2), (0, .ref (ad X 12)), (1, .int a1), (2, .int a2)] [.int r4]
    refine g_goto (pc := 16) (tgt := 25) C dX12_number_16 (by decide) ?_
    refine g_weak (lv1 := []) [] rfl ?_
    exact s_X12_number_b25 C r4  S3 h
theorem c_X12_number (l : Launch) (b : Bw) (a1 : Int32) (a2 : Int32) (S : St) : Ct l b yX12_number wsX12_number rmX12_number [.ref (bad b 12), .int a1, .int a2] S mkI (f_X12_number a1 a2 S) := Ct.of (by decide +kernel) rfl (Nat.le_of_ble_eq_true rfl) (fun X C hl hb r h => by
  subst hl; subst hb
  exact s_X12_number_b0 C a1 a2 S h)
/-! StyleRowsModel.longOf(I)I -/
set_option maxRecDepth 100000 in
set_option maxHeartbeats 4000000 in
theorem s_X12_longOf_b84 {X : MC} (C : Cx X cX12_longOf RX12 wsX12_longOf 5 rmX12_longOf (some .int)) (w0 : Int32) (S : St) {r0 : Int32 × St} (h : f_X12_longOf_b84 w0 S = some r0) : G X (QM mkI X r0) S 84 [] [.int w0] := by
  unfold f_X12_longOf_b84 at h
  exact g_iret (pc := 84) C h dX12_longOf_84
set_option maxRecDepth 100000 in
set_option maxHeartbeats 4000000 in
theorem s_X12_longOf_b34 {X : MC} (C : Cx X cX12_longOf RX12 wsX12_longOf 5 rmX12_longOf (some .int)) (v1 : Int32) (w1 : Int32) (w2 : Int32) (S : St) {r0 : Int32 × St} (h : f_X12_longOf_b34 v1 w1 w2 S = some r0) : G X (QM mkI X r0) S 34 [(0, .ref (ad X 12)), (1, .int v1)] [.int w2, .int w1, .ref (ad X 12)] := by
  unfold f_X12_longOf_b34 at h
  refine g_callV (pc := 34) C 12 (c_X12_number (Xl X) (Xb X) w1 w2 S) gX12_longOf_X12_number rfl rfl rfl hd_X12_number ⟨Nat.le_of_ble_eq_true rfl, Nat.le_of_ble_eq_true rfl⟩ (w_12 _ _) rfl rfl rfl (Nat.le_of_ble_eq_true rfl) dX12_longOf_34 h (fun r6 S5 h => ?_)
  change G X _ S5 37 [(0, .ref (ad X 12)), (1, .int v1)] [.int r6]
  refine g_istore_n (pc := 37) C [(2, .int r6), (0, .ref (ad X 12)), (1, .int v1)] dX12_longOf_37 rfl (Nat.le_of_ble_eq_true rfl) rfl ?_
  refine g_aload_n (pc := 38) C dX12_longOf_38 rfl 1 rfl ?_
  refine g_get (pc := 39) C 12 (w_12 _ _) rfl 4 (Nat.le_of_ble_eq_true rfl) in_X12_X12_longOf k16_X12_longOf rfl dX12_longOf_39 ?_
  refine g_iload_n (pc := 42) C dX12_longOf_42 rfl 2 rfl ?_
  refine g_iald (pc := 43) C 51 (w_51 _ _) h dX12_longOf_43 (fun h => ?_)
  refine g_iload_n (pc := 44) C dX12_longOf_44 rfl 0 rfl ?_
  refine g_imul (pc := 45) C dX12_longOf_45 ?_
  refine g_bipush (pc := 46) (v := 100) C dX12_longOf_46 (by decide) ?_
  refine g_idiv (pc := 48) C h dX12_longOf_48 (fun h => ?_)
  refine g_leti h (fun x7 h => ?_)
  refine g_istore_n (pc := 49) C [(3, .int x7), (2, .int r6), (0, .ref (ad X 12)), (1, .int v1)] dX12_longOf_49 rfl (Nat.le_of_ble_eq_true rfl) rfl ?_
  refine g_aload_n (pc := 50) C dX12_longOf_50 rfl 2 rfl ?_
  refine g_aload_n (pc := 51) C dX12_longOf_51 rfl 2 rfl ?_
  refine g_get (pc := 52) C 12 (w_12 _ _) rfl 2 (Nat.le_of_ble_eq_true rfl) in_X12_X12_longOf k7_X12_longOf rfl dX12_longOf_52 ?_
  refine g_iload_n (pc := 55) C dX12_longOf_55 rfl 3 rfl ?_
  refine g_iald (pc := 56) C 49 (w_49 _ _) h dX12_longOf_56 (fun h => ?_)
  refine g_iconst (pc := 57) (v := 3) C dX12_longOf_57 (by decide) ?_
  refine g_callV (pc := 58) C 12 (c_X12_number (Xl X) (Xb X) (rd S5 49 v1) 3 S5) gX12_longOf_X12_number rfl rfl rfl hd_X12_number ⟨Nat.le_of_ble_eq_true rfl, Nat.le_of_ble_eq_true rfl⟩ (w_12 _ _) rfl rfl rfl (Nat.le_of_ble_eq_true rfl) dX12_longOf_58 h (fun r9 S8 h => ?_)
  change G X _ S8 61 [(3, .int x7), (2, .int r6), (0, .ref (ad X 12)), (1, .int v1)] [.int r9]
  refine g_aload_n (pc := 61) C dX12_longOf_61 rfl 2 rfl ?_
  refine g_get (pc := 62) C 12 (w_12 _ _) rfl 4 (Nat.le_of_ble_eq_true rfl) in_X12_X12_longOf k16_X12_longOf rfl dX12_longOf_62 ?_
  refine g_iload_n (pc := 65) C dX12_longOf_65 rfl 3 rfl ?_
  refine g_iald (pc := 66) C 51 (w_51 _ _) h dX12_longOf_66 (fun h => ?_)
  refine g_callS (pc := 67) C (c_X12_lesser (Xl X) (Xb X) r9 (rd S8 51 v1) S8) gX12_longOf_X12_lesser rfl rfl rfl hd_X12_lesser ⟨Nat.le_of_ble_eq_true rfl, Nat.le_of_ble_eq_true rfl⟩ rfl rfl (Nat.le_of_ble_eq_true rfl) dX12_longOf_67 h (fun r11 S10 h => ?_)
  change G X _ S10 70 [(3, .int x7), (2, .int r6), (0, .ref (ad X 12)), (1, .int v1)] [.int r11]
  refine g_istore (pc := 70) C [(4, .int r11), (3, .int x7), (2, .int r6), (0, .ref (ad X 12)), (1, .int v1)] dX12_longOf_70 (Nat.le_of_ble_eq_true rfl) rfl ?_
  refine g_iload_n (pc := 72) C dX12_longOf_72 rfl 1 rfl ?_
  refine g_iload (pc := 73) C dX12_longOf_73 0 rfl ?_
  refine g_icmp_ge (pc := 75) (tgt := 83) C h dX12_longOf_75 (by decide) (fun h => ?_) (fun h => ?_)
  · refine g_iload_n (pc := 83) C dX12_longOf_83 rfl 1 rfl ?_
    refine g_weak (lv1 := []) [] rfl ?_
    exact s_X12_longOf_b84 C x7  S10 h
  · refine g_iload (pc := 78) C dX12_longOf_78 0 rfl ?_
    refine g_goto (pc := 80) (tgt := 84) C dX12_longOf_80 (by decide) ?_
    refine g_weak (lv1 := []) [] rfl ?_
    exact s_X12_longOf_b84 C r11  S10 h
set_option maxRecDepth 100000 in
set_option maxHeartbeats 4000000 in
theorem s_X12_longOf_b0 {X : MC} (C : Cx X cX12_longOf RX12 wsX12_longOf 5 rmX12_longOf (some .int)) (a1 : Int32) (S : St) {r0 : Int32 × St} (h : f_X12_longOf_b0 a1 S = some r0) : G X (QM mkI X r0) S 0 [(0, .ref (ad X 12)), (1, .int a1)] [] := by
  unfold f_X12_longOf_b0 at h
  refine g_aload_n (pc := 0) C dX12_longOf_0 rfl 0 rfl ?_
  refine g_aload_n (pc := 1) C dX12_longOf_1 rfl 0 rfl ?_
  refine g_get (pc := 2) C 12 (w_12 _ _) rfl 2 (Nat.le_of_ble_eq_true rfl) in_X12_X12_longOf k7_X12_longOf rfl dX12_longOf_2 ?_
  refine g_iload_n (pc := 5) C dX12_longOf_5 rfl 1 rfl ?_
  refine g_iald (pc := 6) C 49 (w_49 _ _) h dX12_longOf_6 (fun h => ?_)
  refine g_aload_n (pc := 7) C dX12_longOf_7 rfl 0 rfl ?_
  refine g_iload_n (pc := 8) C dX12_longOf_8 rfl 1 rfl ?_
  refine g_iconst (pc := 9) (v := 1) C dX12_longOf_9 (by decide) ?_
  refine g_callV (pc := 10) C 12 (c_X12_has (Xl X) (Xb X) a1 1 S) gX12_longOf_X12_has rfl rfl rfl hd_X12_has ⟨Nat.le_of_ble_eq_true rfl, Nat.le_of_ble_eq_true rfl⟩ (w_12 _ _) rfl rfl rfl (Nat.le_of_ble_eq_true rfl) dX12_longOf_10 h (fun r2 S1 h => ?_)
  change G X _ S1 13 [(0, .ref (ad X 12)), (1, .int a1)] [.int r2, .int (rd S 49 a1), .ref (ad X 12)]
  refine g_if_eq (pc := 13) (tgt := 20) C h dX12_longOf_13 (by decide) (fun h => ?_) (fun h => ?_)
  · refine g_aload_n (pc := 20) C dX12_longOf_20 rfl 0 rfl ?_
    refine g_iload_n (pc := 21) C dX12_longOf_21 rfl 1 rfl ?_
    refine g_iconst (pc := 22) (v := 2) C dX12_longOf_22 (by decide) ?_
    refine g_callV (pc := 23) C 12 (c_X12_has (Xl X) (Xb X) a1 2 S1) gX12_longOf_X12_has rfl rfl rfl hd_X12_has ⟨Nat.le_of_ble_eq_true rfl, Nat.le_of_ble_eq_true rfl⟩ (w_12 _ _) rfl rfl rfl (Nat.le_of_ble_eq_true rfl) dX12_longOf_23 h (fun r4 S3 h => ?_)
    change G X _ S3 26 [(0, .ref (ad X 12)), (1, .int a1)] [.int r4, .int (rd S 49 a1), .ref (ad X 12)]
    refine g_if_eq (pc := 26) (tgt := 33) C h dX12_longOf_26 (by decide) (fun h => ?_) (fun h => ?_)
    · refine g_iconst (pc := 33) (v := 1) C dX12_longOf_33 (by decide) ?_
      refine g_weak (lv1 := [(0, .ref (ad X 12)), (1, .int a1)]) [0, 1] rfl ?_
      exact s_X12_longOf_b34 C a1 (rd S 49 a1) 1  S3 h
    · refine g_iconst (pc := 29) (v := 2) C dX12_longOf_29 (by decide) ?_
      refine g_goto (pc := 30) (tgt := 34) C dX12_longOf_30 (by decide) ?_
      refine g_weak (lv1 := [(0, .ref (ad X 12)), (1, .int a1)]) [0, 1] rfl ?_
      exact s_X12_longOf_b34 C a1 (rd S 49 a1) 2  S3 h
  · refine g_iconst (pc := 16) (v := 0) C dX12_longOf_16 (by decide) ?_
    refine g_goto (pc := 17) (tgt := 34) C dX12_longOf_17 (by decide) ?_
    refine g_weak (lv1 := [(0, .ref (ad X 12)), (1, .int a1)]) [0, 1] rfl ?_
    exact s_X12_longOf_b34 C a1 (rd S 49 a1) 0  S1 h
theorem c_X12_longOf (l : Launch) (b : Bw) (a1 : Int32) (S : St) : Ct l b yX12_longOf wsX12_longOf rmX12_longOf [.ref (bad b 12), .int a1] S mkI (f_X12_longOf a1 S) := Ct.of (by decide +kernel) rfl (Nat.le_of_ble_eq_true rfl) (fun X C hl hb r h => by
  subst hl; subst hb
  exact s_X12_longOf_b0 C a1 S h)
/-! StyleRowsModel.loudOf(I)I -/
set_option maxRecDepth 100000 in
set_option maxHeartbeats 4000000 in
theorem s_X12_loudOf_b119 {X : MC} (C : Cx X cX12_loudOf RX12 wsX12_loudOf 3 rmX12_loudOf (some .int)) (w0 : Int32) (S : St) {r0 : Int32 × St} (h : f_X12_loudOf_b119 w0 S = some r0) : G X (QM mkI X r0) S 119 [] [.int w0] := by
  unfold f_X12_loudOf_b119 at h
  exact g_iret (pc := 119) C h dX12_loudOf_119
set_option maxRecDepth 100000 in
set_option maxHeartbeats 4000000 in
theorem s_X12_loudOf_b102 {X : MC} (C : Cx X cX12_loudOf RX12 wsX12_loudOf 3 rmX12_loudOf (some .int)) (w0 : Int32) (w1 : Int32) (S : St) {r0 : Int32 × St} (h : f_X12_loudOf_b102 w0 w1 S = some r0) : G X (QM mkI X r0) S 102 [] [.int w1, .int w0] := by
  unfold f_X12_loudOf_b102 at h
  refine g_iadd (pc := 102) C dX12_loudOf_102 ?_
  refine g_leti h (fun x6 h => ?_)
  refine g_istore_n (pc := 103) C [(2, .int x6)] dX12_loudOf_103 rfl (Nat.le_of_ble_eq_true rfl) rfl ?_
  refine g_iload_n (pc := 104) C dX12_loudOf_104 rfl 0 rfl ?_
  refine g_iconst (pc := 105) (v := 1) C dX12_loudOf_105 (by decide) ?_
  refine g_icmp_ge (pc := 106) (tgt := 113) C h dX12_loudOf_106 (by decide) (fun h => ?_) (fun h => ?_)
  · refine g_iload_n (pc := 113) C dX12_loudOf_113 rfl 0 rfl ?_
    refine g_bipush (pc := 114) (v := 127) C dX12_loudOf_114 (by decide) ?_
    refine g_callS (pc := 116) C (c_X12_lesser (Xl X) (Xb X) x6 127 S) gX12_loudOf_X12_lesser rfl rfl rfl hd_X12_lesser ⟨Nat.le_of_ble_eq_true rfl, Nat.le_of_ble_eq_true rfl⟩ rfl rfl (Nat.le_of_ble_eq_true rfl) dX12_loudOf_116 h (fun r8 S7 h => ?_)
    change G X _ S7 119 [(2, .int x6)] [.int r8]
    refine g_weak (lv1 := []) [] rfl ?_
    exact s_X12_loudOf_b119 C r8  S7 h
  · refine g_iconst (pc := 109) (v := 1) C dX12_loudOf_109 (by decide) ?_
    refine g_goto (pc := 110) (tgt := 119) C dX12_loudOf_110 (by decide) ?_
    refine g_weak (lv1 := []) [] rfl ?_
    exact s_X12_loudOf_b119 C 1  S h
set_option maxRecDepth 100000 in
set_option maxHeartbeats 4000000 in
theorem s_X12_loudOf_b36 {X : MC} (C : Cx X cX12_loudOf RX12 wsX12_loudOf 3 rmX12_loudOf (some .int)) (v1 : Int32) (w0 : Int32) (w1 : Int32) (S : St) {r0 : Int32 × St} (h : f_X12_loudOf_b36 v1 w0 w1 S = some r0) : G X (QM mkI X r0) S 36 [(0, .ref (ad X 12)), (1, .int v1)] [.int w1, .int w0] := by
  unfold f_X12_loudOf_b36 at h
  refine g_iadd (pc := 36) C dX12_loudOf_36 ?_
  refine g_leti h (fun x5 h => ?_)
  refine g_istore_n (pc := 37) C [(2, .int x5), (0, .ref (ad X 12)), (1, .int v1)] dX12_loudOf_37 rfl (Nat.le_of_ble_eq_true rfl) rfl ?_
  refine g_iload_n (pc := 38) C dX12_loudOf_38 rfl 0 rfl ?_
  refine g_aload_n (pc := 39) C dX12_loudOf_39 rfl 1 rfl ?_
  refine g_get (pc := 40) C 12 (w_12 _ _) rfl 3 (Nat.le_of_ble_eq_true rfl) in_X12_X12_loudOf k13_X12_loudOf rfl dX12_loudOf_40 ?_
  refine g_iload_n (pc := 43) C dX12_loudOf_43 rfl 2 rfl ?_
  refine g_iald (pc := 44) C 50 (w_50 _ _) h dX12_loudOf_44 (fun h => ?_)
  refine g_aload_n (pc := 45) C dX12_loudOf_45 rfl 1 rfl ?_
  refine g_get (pc := 46) C 12 (w_12 _ _) rfl 11 (Nat.le_of_ble_eq_true rfl) in_X12_X12_loudOf k35_X12_loudOf rfl dX12_loudOf_46 ?_
  refine g_aload_n (pc := 49) C dX12_loudOf_49 rfl 1 rfl ?_
  refine g_get (pc := 50) C 12 (w_12 _ _) rfl 12 (Nat.le_of_ble_eq_true rfl) in_X12_X12_loudOf k39_X12_loudOf rfl dX12_loudOf_50 ?_
  refine g_imul (pc := 53) C dX12_loudOf_53 ?_
  refine g_irem (pc := 54) C h dX12_loudOf_54 (fun h => ?_)
  refine g_if_ne (pc := 55) (tgt := 72) C h dX12_loudOf_55 (by decide) (fun h => ?_) (fun h => ?_)
  · refine g_aload_n (pc := 72) C dX12_loudOf_72 rfl 1 rfl ?_
    refine g_get (pc := 73) C 12 (w_12 _ _) rfl 3 (Nat.le_of_ble_eq_true rfl) in_X12_X12_loudOf k13_X12_loudOf rfl dX12_loudOf_73 ?_
    refine g_iload_n (pc := 76) C dX12_loudOf_76 rfl 2 rfl ?_
    refine g_iald (pc := 77) C 50 (w_50 _ _) h dX12_loudOf_77 (fun h => ?_)
    refine g_aload_n (pc := 78) C dX12_loudOf_78 rfl 1 rfl ?_
    refine g_get (pc := 79) C 12 (w_12 _ _) rfl 12 (Nat.le_of_ble_eq_true rfl) in_X12_X12_loudOf k39_X12_loudOf rfl dX12_loudOf_79 ?_
    refine g_irem (pc := 82) C h dX12_loudOf_82 (fun h => ?_)
    refine g_if_ne (pc := 83) (tgt := 101) C h dX12_loudOf_83 (by decide) (fun h => ?_) (fun h => ?_)
    · refine g_iconst (pc := 101) (v := 0) C dX12_loudOf_101 (by decide) ?_
      refine g_weak (lv1 := []) [] rfl ?_
      exact s_X12_loudOf_b102 C x5 0  S h
    · refine g_aload_n (pc := 86) C dX12_loudOf_86 rfl 1 rfl ?_
      refine g_aload_n (pc := 87) C dX12_loudOf_87 rfl 1 rfl ?_
      refine g_get (pc := 88) C 12 (w_12 _ _) rfl 2 (Nat.le_of_ble_eq_true rfl) in_X12_X12_loudOf k7_X12_loudOf rfl dX12_loudOf_88 ?_
      refine g_iload_n (pc := 91) C dX12_loudOf_91 rfl 2 rfl ?_
      refine g_iald (pc := 92) C 49 (w_49 _ _) h dX12_loudOf_92 (fun h => ?_)
      refine g_bipush (pc := 93) (v := 6) C dX12_loudOf_93 (by decide) ?_
      refine g_callV (pc := 95) C 12 (c_X12_number (Xl X) (Xb X) (rd S 49 v1) 6 S) gX12_loudOf_X12_number rfl rfl rfl hd_X12_number ⟨Nat.le_of_ble_eq_true rfl, Nat.le_of_ble_eq_true rfl⟩ (w_12 _ _) rfl rfl rfl (Nat.le_of_ble_eq_true rfl) dX12_loudOf_95 h (fun r10 S9 h => ?_)
      change G X _ S9 98 [(2, .int x5), (0, .ref (ad X 12)), (1, .int v1)] [.int r10, .int x5]
      refine g_goto (pc := 98) (tgt := 102) C dX12_loudOf_98 (by decide) ?_
      refine g_weak (lv1 := []) [] rfl ?_
      exact s_X12_loudOf_b102 C x5 r10  S9 h
  · refine g_aload_n (pc := 58) C dX12_loudOf_58 rfl 1 rfl ?_
    refine g_aload_n (pc := 59) C dX12_loudOf_59 rfl 1 rfl ?_
    refine g_get (pc := 60) C 12 (w_12 _ _) rfl 2 (Nat.le_of_ble_eq_true rfl) in_X12_X12_loudOf k7_X12_loudOf rfl dX12_loudOf_60 ?_
    refine g_iload_n (pc := 63) C dX12_loudOf_63 rfl 2 rfl ?_
    refine g_iald (pc := 64) C 49 (w_49 _ _) h dX12_loudOf_64 (fun h => ?_)
    refine g_iconst (pc := 65) (v := 5) C dX12_loudOf_65 (by decide) ?_
    refine g_callV (pc := 66) C 12 (c_X12_number (Xl X) (Xb X) (rd S 49 v1) 5 S) gX12_loudOf_X12_number rfl rfl rfl hd_X12_number ⟨Nat.le_of_ble_eq_true rfl, Nat.le_of_ble_eq_true rfl⟩ (w_12 _ _) rfl rfl rfl (Nat.le_of_ble_eq_true rfl) dX12_loudOf_66 h (fun r12 S11 h => ?_)
    change G X _ S11 69 [(2, .int x5), (0, .ref (ad X 12)), (1, .int v1)] [.int r12, .int x5]
    refine g_goto (pc := 69) (tgt := 102) C dX12_loudOf_69 (by decide) ?_
    refine g_weak (lv1 := []) [] rfl ?_
    exact s_X12_loudOf_b102 C x5 r12  S11 h
set_option maxRecDepth 100000 in
set_option maxHeartbeats 4000000 in
theorem s_X12_loudOf_b0 {X : MC} (C : Cx X cX12_loudOf RX12 wsX12_loudOf 3 rmX12_loudOf (some .int)) (a1 : Int32) (S : St) {r0 : Int32 × St} (h : f_X12_loudOf_b0 a1 S = some r0) : G X (QM mkI X r0) S 0 [(0, .ref (ad X 12)), (1, .int a1)] [] := by
  unfold f_X12_loudOf_b0 at h
  refine g_aload_n (pc := 0) C dX12_loudOf_0 rfl 0 rfl ?_
  refine g_aload_n (pc := 1) C dX12_loudOf_1 rfl 0 rfl ?_
  refine g_get (pc := 2) C 12 (w_12 _ _) rfl 3 (Nat.le_of_ble_eq_true rfl) in_X12_X12_loudOf k13_X12_loudOf rfl dX12_loudOf_2 ?_
  refine g_iload_n (pc := 5) C dX12_loudOf_5 rfl 1 rfl ?_
  refine g_iald (pc := 6) C 50 (w_50 _ _) h dX12_loudOf_6 (fun h => ?_)
  refine g_callV (pc := 7) C 12 (c_X12_highAt (Xl X) (Xb X) (rd S 50 a1) S) gX12_loudOf_X12_highAt rfl rfl rfl hd_X12_highAt ⟨Nat.le_of_ble_eq_true rfl, Nat.le_of_ble_eq_true rfl⟩ (w_12 _ _) rfl rfl rfl (Nat.le_of_ble_eq_true rfl) dX12_loudOf_7 h (fun r2 S1 h => ?_)
  change G X _ S1 10 [(0, .ref (ad X 12)), (1, .int a1)] [.int r2]
  refine g_istore_n (pc := 10) C [(2, .int r2), (0, .ref (ad X 12)), (1, .int a1)] dX12_loudOf_10 rfl (Nat.le_of_ble_eq_true rfl) rfl ?_
  refine g_iload_n (pc := 11) C dX12_loudOf_11 rfl 0 rfl ?_
  refine g_aload_n (pc := 12) C dX12_loudOf_12 rfl 1 rfl ?_
  refine g_iload_n (pc := 13) C dX12_loudOf_13 rfl 2 rfl ?_
  refine g_iconst (pc := 14) (v := 4) C dX12_loudOf_14 (by decide) ?_
  refine g_callV (pc := 15) C 12 (c_X12_has (Xl X) (Xb X) a1 4 S1) gX12_loudOf_X12_has rfl rfl rfl hd_X12_has ⟨Nat.le_of_ble_eq_true rfl, Nat.le_of_ble_eq_true rfl⟩ (w_12 _ _) rfl rfl rfl (Nat.le_of_ble_eq_true rfl) dX12_loudOf_15 h (fun r4 S3 h => ?_)
  change G X _ S3 18 [(2, .int r2), (0, .ref (ad X 12)), (1, .int a1)] [.int r4, .int r2]
  refine g_if_eq (pc := 18) (tgt := 35) C h dX12_loudOf_18 (by decide) (fun h => ?_) (fun h => ?_)
  · refine g_iconst (pc := 35) (v := 0) C dX12_loudOf_35 (by decide) ?_
    refine g_weak (lv1 := [(0, .ref (ad X 12)), (1, .int a1)]) [1, 2] rfl ?_
    exact s_X12_loudOf_b36 C a1 r2 0  S3 h
  · refine g_aload_n (pc := 21) C dX12_loudOf_21 rfl 1 rfl ?_
    refine g_aload_n (pc := 22) C dX12_loudOf_22 rfl 1 rfl ?_
    refine g_get (pc := 23) C 12 (w_12 _ _) rfl 2 (Nat.le_of_ble_eq_true rfl) in_X12_X12_loudOf k7_X12_loudOf rfl dX12_loudOf_23 ?_
    refine g_iload_n (pc := 26) C dX12_loudOf_26 rfl 2 rfl ?_
    refine g_iald (pc := 27) C 49 (w_49 _ _) h dX12_loudOf_27 (fun h => ?_)
    refine g_iconst (pc := 28) (v := 4) C dX12_loudOf_28 (by decide) ?_
    refine g_callV (pc := 29) C 12 (c_X12_number (Xl X) (Xb X) (rd S3 49 a1) 4 S3) gX12_loudOf_X12_number rfl rfl rfl hd_X12_number ⟨Nat.le_of_ble_eq_true rfl, Nat.le_of_ble_eq_true rfl⟩ (w_12 _ _) rfl rfl rfl (Nat.le_of_ble_eq_true rfl) dX12_loudOf_29 h (fun r14 S13 h => ?_)
    change G X _ S13 32 [(2, .int r2), (0, .ref (ad X 12)), (1, .int a1)] [.int r14, .int r2]
    refine g_goto (pc := 32) (tgt := 36) C dX12_loudOf_32 (by decide) ?_
    refine g_weak (lv1 := [(0, .ref (ad X 12)), (1, .int a1)]) [1, 2] rfl ?_
    exact s_X12_loudOf_b36 C a1 r2 r14  S13 h
theorem c_X12_loudOf (l : Launch) (b : Bw) (a1 : Int32) (S : St) : Ct l b yX12_loudOf wsX12_loudOf rmX12_loudOf [.ref (bad b 12), .int a1] S mkI (f_X12_loudOf a1 S) := Ct.of (by decide +kernel) rfl (Nat.le_of_ble_eq_true rfl) (fun X C hl hb r h => by
  subst hl; subst hb
  exact s_X12_loudOf_b0 C a1 S h)
