/-! StyleRowsModel.read()I -/
set_option maxRecDepth 100000 in
set_option maxHeartbeats 4000000 in
theorem s_X12_read_b47 {X : MC} (C : Cx X cX12_read RX12 wsX12_read 4 rmX12_read (some .int)) (v1 : Int32) (v2 : Int32) (S : St) {r0 : Int32 × St} (h : f_X12_read_b47 v1 v2 S = some r0) : G X (QM mkI X r0) S 47 [(0, .ref (ad X 12)), (1, .int v1), (2, .int v2)] [] := by
  unfold f_X12_read_b47 at h
  refine g_aload_n (pc := 47) C dX12_read_47 rfl 0 rfl ?_
  refine g_get (pc := 48) C 12 (w_12 _ _) rfl 25 (Nat.le_of_ble_eq_true rfl) in_X12_X12_read k141_X12_read rfl dX12_read_48 ?_
  refine g_leti h (fun x4 h => ?_)
  refine g_istore_n (pc := 51) C [(3, .int x4), (0, .ref (ad X 12)), (1, .int v1), (2, .int v2)] dX12_read_51 rfl (Nat.le_of_ble_eq_true rfl) rfl ?_
  refine g_aload_n (pc := 52) C dX12_read_52 rfl 1 rfl ?_
  refine g_iconst (pc := 53) (v := 0) C dX12_read_53 (by decide) ?_
  refine g_put (pc := 54) C 12 (w_12 _ _) rfl 22 (Nat.le_of_ble_eq_true rfl) in_X12_X12_read tyX12_ok nmX12 k130_X12_read rfl rfl rfl (Nat.le_of_ble_eq_true rfl) (ws_12_22 _ _ _) dX12_read_54 h (fun S5 h => ?_)
  refine g_iload_n (pc := 57) C dX12_read_57 rfl 3 rfl ?_
  refine g_if_ne (pc := 58) (tgt := 66) C h dX12_read_58 (by decide) (fun h => ?_) (fun h => ?_)
  · refine g_aload_n (pc := 66) C dX12_read_66 rfl 1 rfl ?_
    refine g_iload_n (pc := 67) C dX12_read_67 rfl 2 rfl ?_
    refine g_put (pc := 68) C 12 (w_12 _ _) rfl 17 (Nat.le_of_ble_eq_true rfl) in_X12_X12_read tyX12_ok nmX12 k193_X12_read rfl rfl rfl (Nat.le_of_ble_eq_true rfl) (ws_12_17 _ _ _) dX12_read_68 h (fun S6 h => ?_)
    refine g_aload_n (pc := 71) C dX12_read_71 rfl 1 rfl ?_
    refine g_get (pc := 72) C 12 (w_12 _ _) rfl 17 (Nat.le_of_ble_eq_true rfl) in_X12_X12_read k193_X12_read rfl dX12_read_72 ?_
    exact g_iret (pc := 75) C h dX12_read_75
  · refine g_bipush (pc := 61) (v := (-10)) C dX12_read_61 (by decide) ?_
    refine g_iload_n (pc := 63) C dX12_read_63 rfl 0 rfl ?_
    refine g_isub (pc := 64) C dX12_read_64 ?_
    exact g_iret (pc := 65) C h dX12_read_65
set_option maxRecDepth 100000 in
set_option maxHeartbeats 4000000 in
theorem s_X12_read_b16 {X : MC} (C : Cx X cX12_read RX12 wsX12_read 4 rmX12_read (some .int)) {rec16 : Int32 × Int32 × St → Option (Int32 × St)} (v1 : Int32) (v2 : Int32) (hrec16 : ∀ (s : Int32 × Int32 × St) (r : Int32 × St), rec16 s = some r → G X (QM mkI X r) s.2.2 16 [(0, .ref (ad X 12)), (1, .int (s.1)), (2, .int (s.2.1))] []) (S : St) {r0 : Int32 × St} (h : f_X12_read_b16 rec16 v1 v2 S = some r0) : G X (QM mkI X r0) S 16 [(0, .ref (ad X 12)), (1, .int v1), (2, .int v2)] [] := by
  unfold f_X12_read_b16 at h
  refine g_iload_n (pc := 16) C dX12_read_16 rfl 2 rfl ?_
  refine g_if_eq (pc := 17) (tgt := 47) C h dX12_read_17 (by decide) (fun h => ?_) (fun h => ?_)
  · refine g_weak (lv1 := [(0, .ref (ad X 12)), (1, .int v1), (2, .int v2)]) [0, 1, 2] rfl ?_
    exact s_X12_read_b47 C v1 v2  S h
  · refine g_aload_n (pc := 20) C dX12_read_20 rfl 0 rfl ?_
    refine g_get (pc := 21) C 12 (w_12 _ _) rfl 24 (Nat.le_of_ble_eq_true rfl) in_X12_X12_read k151_X12_read rfl dX12_read_21 ?_
    refine g_if_eq (pc := 24) (tgt := 47) C h dX12_read_24 (by decide) (fun h => ?_) (fun h => ?_)
    · refine g_weak (lv1 := [(0, .ref (ad X 12)), (1, .int v1), (2, .int v2)]) [0, 1, 2] rfl ?_
      exact s_X12_read_b47 C v1 v2  S h
    · refine g_aload_n (pc := 27) C dX12_read_27 rfl 0 rfl ?_
      refine g_iload_n (pc := 28) C dX12_read_28 rfl 1 rfl ?_
      refine g_callV (pc := 29) C 12 (c_X12_takeRule (Xl X) (Xb X) v1 S) gX12_read_X12_takeRule rfl rfl rfl hd_X12_takeRule ⟨Nat.le_of_ble_eq_true rfl, Nat.le_of_ble_eq_true rfl⟩ (w_12 _ _) rfl rfl rfl (Nat.le_of_ble_eq_true rfl) dX12_read_29 h (fun r8 S7 h => ?_)
      change G X _ S7 32 [(0, .ref (ad X 12)), (1, .int v1), (2, .int v2)] [.int r8]
      refine g_istore_n (pc := 32) C [(2, .int r8), (0, .ref (ad X 12)), (1, .int v1)] dX12_read_32 rfl (Nat.le_of_ble_eq_true rfl) rfl ?_
      refine g_iload_n (pc := 33) C dX12_read_33 rfl 0 rfl ?_
      refine g_if_eq (pc := 34) (tgt := 16) C h dX12_read_34 (by decide) (fun h => ?_) (fun h => ?_)
      · refine g_weak (lv1 := [(0, .ref (ad X 12)), (1, .int v1), (2, .int r8)]) [1, 2, 0] rfl ?_
        exact hrec16 (v1, r8, S7) _ h
      · refine g_iinc (pc := 37) (v := v1 + 1) C [(1, .int (v1 + 1)), (2, .int r8), (0, .ref (ad X 12))] dX12_read_37 2 rfl rfl (Nat.le_of_ble_eq_true rfl) rfl ?_
        refine g_aload_n (pc := 40) C dX12_read_40 rfl 2 rfl ?_
        refine g_callV (pc := 41) C 12 (c_X12_take (Xl X) (Xb X) S7) gX12_read_X12_take rfl rfl rfl hd_X12_take ⟨Nat.le_of_ble_eq_true rfl, Nat.le_of_ble_eq_true rfl⟩ (w_12 _ _) rfl rfl rfl (Nat.le_of_ble_eq_true rfl) dX12_read_41 h (fun _u9 S9 h => ?_)
        change G X _ S9 44 [(1, .int (v1 + 1)), (2, .int r8), (0, .ref (ad X 12))] []
        refine g_goto (pc := 44) (tgt := 16) C dX12_read_44 (by decide) ?_
        refine g_weak (lv1 := [(0, .ref (ad X 12)), (1, .int (v1 + 1)), (2, .int r8)]) [2, 0, 1] rfl ?_
        exact hrec16 (v1 + 1, r8, S9) _ h
set_option maxRecDepth 100000 in
set_option maxHeartbeats 4000000 in
theorem s_X12_read_l16 {X : MC} (C : Cx X cX12_read RX12 wsX12_read 4 rmX12_read (some .int)) : ∀ (n : Nat) (s : Int32 × Int32 × St) (r : Int32 × St), f_X12_read_l16 n s = some r → G X (QM mkI X r) s.2.2 16 [(0, .ref (ad X 12)), (1, .int (s.1)), (2, .int (s.2.1))] [] :=
  loop_sound (fun rec16 hrec16 s r h => s_X12_read_b16 C s.1 s.2.1 hrec16 s.2.2 h)
set_option maxRecDepth 100000 in
set_option maxHeartbeats 4000000 in
theorem s_X12_read_b0 {X : MC} (C : Cx X cX12_read RX12 wsX12_read 4 rmX12_read (some .int)) (S : St) {r0 : Int32 × St} (h : f_X12_read_b0 S = some r0) : G X (QM mkI X r0) S 0 [(0, .ref (ad X 12))] [] := by
  unfold f_X12_read_b0 at h
  refine g_aload_n (pc := 0) C dX12_read_0 rfl 0 rfl ?_
  refine g_get (pc := 1) C 12 (w_12 _ _) rfl 17 (Nat.le_of_ble_eq_true rfl) in_X12_X12_read k193_X12_read rfl dX12_read_1 ?_
  refine g_leti h (fun x1 h => ?_)
  refine g_istore_n (pc := 4) C [(1, .int x1), (0, .ref (ad X 12))] dX12_read_4 rfl (Nat.le_of_ble_eq_true rfl) rfl ?_
  refine g_aload_n (pc := 5) C dX12_read_5 rfl 1 rfl ?_
  refine g_iconst (pc := 6) (v := 0) C dX12_read_6 (by decide) ?_
  refine g_put (pc := 7) C 12 (w_12 _ _) rfl 26 (Nat.le_of_ble_eq_true rfl) in_X12_X12_read tyX12_ok nmX12 k135_X12_read rfl rfl rfl (Nat.le_of_ble_eq_true rfl) (ws_12_26 _ _ _) dX12_read_7 h (fun S2 h => ?_)
  refine g_aload_n (pc := 10) C dX12_read_10 rfl 1 rfl ?_
  refine g_callV (pc := 11) C 12 (c_X12_take (Xl X) (Xb X) S2) gX12_read_X12_take rfl rfl rfl hd_X12_take ⟨Nat.le_of_ble_eq_true rfl, Nat.le_of_ble_eq_true rfl⟩ (w_12 _ _) rfl rfl rfl (Nat.le_of_ble_eq_true rfl) dX12_read_11 h (fun _u3 S3 h => ?_)
  change G X _ S3 14 [(1, .int x1), (0, .ref (ad X 12))] []
  refine g_iconst (pc := 14) (v := 1) C dX12_read_14 (by decide) ?_
  refine g_istore_n (pc := 15) C [(2, .int 1), (1, .int x1), (0, .ref (ad X 12))] dX12_read_15 rfl (Nat.le_of_ble_eq_true rfl) rfl ?_
  refine g_weak (lv1 := [(0, .ref (ad X 12)), (1, .int x1), (2, .int 1)]) [2, 1, 0] rfl ?_
  exact s_X12_read_l16 C  _ (x1, 1, S3) _ h
theorem c_X12_read (l : Launch) (b : Bw) (S : St) : Ct l b yX12_read wsX12_read rmX12_read [.ref (bad b 12)] S mkI (f_X12_read S) := Ct.of (by decide +kernel) rfl (Nat.le_of_ble_eq_true rfl) (fun X C hl hb r h => by
  subst hl; subst hb
  exact s_X12_read_b0 C S h)
/-! StyleRowsModel.plain()I -/
set_option maxRecDepth 100000 in
set_option maxHeartbeats 4000000 in
theorem s_X12_plain_b0 {X : MC} (C : Cx X cX12_plain RX12 wsX12_plain 2 rmX12_plain (some .int)) (S : St) {r0 : Int32 × St} (h : f_X12_plain_b0 S = some r0) : G X (QM mkI X r0) S 0 [(0, .ref (ad X 12))] [] := by
  unfold f_X12_plain_b0 at h
  refine g_aload_n (pc := 0) C dX12_plain_0 rfl 0 rfl ?_
  refine g_get (pc := 1) C 12 (w_12 _ _) rfl 17 (Nat.le_of_ble_eq_true rfl) in_X12_X12_plain k193_X12_plain rfl dX12_plain_1 ?_
  refine g_leti h (fun x1 h => ?_)
  refine g_istore_n (pc := 4) C [(1, .int x1), (0, .ref (ad X 12))] dX12_plain_4 rfl (Nat.le_of_ble_eq_true rfl) rfl ?_
  refine g_aload_n (pc := 5) C dX12_plain_5 rfl 1 rfl ?_
  refine g_iconst (pc := 6) (v := 0) C dX12_plain_6 (by decide) ?_
  refine g_put (pc := 7) C 12 (w_12 _ _) rfl 17 (Nat.le_of_ble_eq_true rfl) in_X12_X12_plain tyX12_ok nmX12 k193_X12_plain rfl rfl rfl (Nat.le_of_ble_eq_true rfl) (ws_12_17 _ _ _) dX12_plain_7 h (fun S2 h => ?_)
  refine g_iload_n (pc := 10) C dX12_plain_10 rfl 0 rfl ?_
  exact g_iret (pc := 11) C h dX12_plain_11
theorem c_X12_plain (l : Launch) (b : Bw) (S : St) : Ct l b yX12_plain wsX12_plain rmX12_plain [.ref (bad b 12)] S mkI (f_X12_plain S) := Ct.of (by decide +kernel) rfl (Nat.le_of_ble_eq_true rfl) (fun X C hl hb r h => by
  subst hl; subst hb
  exact s_X12_plain_b0 C S h)
/-! StyleRowsModel.rule(II)I -/
set_option maxRecDepth 100000 in
set_option maxHeartbeats 4000000 in
theorem s_X12_rule_b78 {X : MC} (C : Cx X cX12_rule RX12 wsX12_rule 3 rmX12_rule (some .int)) (w0 : Int32) (S : St) {r0 : Int32 × St} (h : f_X12_rule_b78 w0 S = some r0) : G X (QM mkI X r0) S 78 [] [.int w0] := by
  unfold f_X12_rule_b78 at h
  exact g_iret (pc := 78) C h dX12_rule_78
set_option maxRecDepth 100000 in
set_option maxHeartbeats 4000000 in
theorem s_X12_rule_b0 {X : MC} (C : Cx X cX12_rule RX12 wsX12_rule 3 rmX12_rule (some .int)) (a1 : Int32) (a2 : Int32) (S : St) {r0 : Int32 × St} (h : f_X12_rule_b0 a1 a2 S = some r0) : G X (QM mkI X r0) S 0 [(0, .ref (ad X 12)), (1, .int a1), (2, .int a2)] [] := by
  unfold f_X12_rule_b0 at h
  refine g_iload_n (pc := 0) C dX12_rule_0 rfl 1 rfl ?_
  refine g_i2l (pc := 1) C dX12_rule_1 ?_
  refine g_lconst (pc := 2) (v := 0) C dX12_rule_2 (by decide) ?_
  refine g_aload_n (pc := 3) C dX12_rule_3 rfl 0 rfl ?_
  refine g_get (pc := 4) C 12 (w_12 _ _) rfl 17 (Nat.le_of_ble_eq_true rfl) in_X12_X12_rule k193_X12_rule rfl dX12_rule_4 ?_
  refine g_iconst (pc := 7) (v := 1) C dX12_rule_7 (by decide) ?_
  refine g_isub (pc := 8) C dX12_rule_8 ?_
  refine g_i2l (pc := 9) C dX12_rule_9 ?_
  refine g_callS (pc := 10) C (c_X12_in (Xl X) (Xb X) (Int32.toInt64 a1) 0 (Int32.toInt64 ((gI S 28) - 1)) S) gX12_rule_X12_in rfl rfl rfl hd_X12_in ⟨Nat.le_of_ble_eq_true rfl, Nat.le_of_ble_eq_true rfl⟩ rfl rfl (Nat.le_of_ble_eq_true rfl) dX12_rule_10 h (fun r2 S1 h => ?_)
  change G X _ S1 13 [(0, .ref (ad X 12)), (1, .int a1), (2, .int a2)] [.int r2]
  refine g_if_ne (pc := 13) (tgt := 20) C h dX12_rule_13 (by decide) (fun h => ?_) (fun h => ?_)
  · refine g_iload_n (pc := 20) C dX12_rule_20 rfl 2 rfl ?_
    refine g_if_ne (pc := 21) (tgt := 33) C h dX12_rule_21 (by decide) (fun h => ?_) (fun h => ?_)
    · refine g_iload_n (pc := 33) C dX12_rule_33 rfl 2 rfl ?_
      refine g_iconst (pc := 34) (v := 1) C dX12_rule_34 (by decide) ?_
      refine g_icmp_ne (pc := 35) (tgt := 47) C h dX12_rule_35 (by decide) (fun h => ?_) (fun h => ?_)
      · refine g_iload_n (pc := 47) C dX12_rule_47 rfl 2 rfl ?_
        refine g_iconst (pc := 48) (v := 2) C dX12_rule_48 (by decide) ?_
        refine g_icmp_ne (pc := 49) (tgt := 61) C h dX12_rule_49 (by decide) (fun h => ?_) (fun h => ?_)
        · refine g_iload_n (pc := 61) C dX12_rule_61 rfl 2 rfl ?_
          refine g_iconst (pc := 62) (v := 3) C dX12_rule_62 (by decide) ?_
          refine g_icmp_ne (pc := 63) (tgt := 75) C h dX12_rule_63 (by decide) (fun h => ?_) (fun h => ?_)
          · refine g_sipush (pc := 75) (v := (-1001)) C dX12_rule_75 (by decide) ?_
            refine g_weak (lv1 := []) [] rfl ?_
            exact s_X12_rule_b78 C (-1001)  S1 h
          · refine g_aload_n (pc := 66) C dX12_rule_66 rfl 0 rfl ?_
            refine g_get (pc := 67) C 12 (w_12 _ _) rfl 21 (Nat.le_of_ble_eq_true rfl) in_X12_X12_rule k60_X12_rule rfl dX12_rule_67 ?_
            refine g_iload_n (pc := 70) C dX12_rule_70 rfl 1 rfl ?_
            refine g_iald (pc := 71) C 63 (w_63 _ _) h dX12_rule_71 (fun h => ?_)
            refine g_goto (pc := 72) (tgt := 78) C dX12_rule_72 (by decide) ?_
            refine g_weak (lv1 := []) [] rfl ?_
            exact s_X12_rule_b78 C (rd S1 63 a1)  S1 h
        · refine g_aload_n (pc := 52) C dX12_rule_52 rfl 0 rfl ?_
          refine g_get (pc := 53) C 12 (w_12 _ _) rfl 20 (Nat.le_of_ble_eq_true rfl) in_X12_X12_rule k57_X12_rule rfl dX12_rule_53 ?_
          refine g_iload_n (pc := 56) C dX12_rule_56 rfl 1 rfl ?_
          refine g_iald (pc := 57) C 62 (w_62 _ _) h dX12_rule_57 (fun h => ?_)
          refine g_goto (pc := 58) (tgt := 78) C dX12_rule_58 (by decide) ?_
          refine g_weak (lv1 := []) [] rfl ?_
          exact s_X12_rule_b78 C (rd S1 62 a1)  S1 h
      · refine g_aload_n (pc := 38) C dX12_rule_38 rfl 0 rfl ?_
        refine g_get (pc := 39) C 12 (w_12 _ _) rfl 19 (Nat.le_of_ble_eq_true rfl) in_X12_X12_rule k54_X12_rule rfl dX12_rule_39 ?_
        refine g_iload_n (pc := 42) C dX12_rule_42 rfl 1 rfl ?_
        refine g_iald (pc := 43) C 61 (w_61 _ _) h dX12_rule_43 (fun h => ?_)
        refine g_goto (pc := 44) (tgt := 78) C dX12_rule_44 (by decide) ?_
        refine g_weak (lv1 := []) [] rfl ?_
        exact s_X12_rule_b78 C (rd S1 61 a1)  S1 h
    · refine g_aload_n (pc := 24) C dX12_rule_24 rfl 0 rfl ?_
      refine g_get (pc := 25) C 12 (w_12 _ _) rfl 18 (Nat.le_of_ble_eq_true rfl) in_X12_X12_rule k51_X12_rule rfl dX12_rule_25 ?_
      refine g_iload_n (pc := 28) C dX12_rule_28 rfl 1 rfl ?_
      refine g_iald (pc := 29) C 60 (w_60 _ _) h dX12_rule_29 (fun h => ?_)
      refine g_goto (pc := 30) (tgt := 78) C dX12_rule_30 (by decide) ?_
      refine g_weak (lv1 := []) [] rfl ?_
      exact s_X12_rule_b78 C (rd S1 60 a1)  S1 h
  · refine g_sipush (pc := 16) (v := (-1001)) C dX12_rule_16 (by decide) ?_
    exact g_iret (pc := 19) C h dX12_rule_19
theorem c_X12_rule (l : Launch) (b : Bw) (a1 : Int32) (a2 : Int32) (S : St) : Ct l b yX12_rule wsX12_rule rmX12_rule [.ref (bad b 12), .int a1, .int a2] S mkI (f_X12_rule a1 a2 S) := Ct.of (by decide +kernel) rfl (Nat.le_of_ble_eq_true rfl) (fun X C hl hb r h => by
  subst hl; subst hb
  exact s_X12_rule_b0 C a1 a2 S h)
/-! StyleRowsModel.counts(II)I -/
set_option maxRecDepth 100000 in
set_option maxHeartbeats 4000000 in
theorem s_X12_counts_b86 {X : MC} (C : Cx X cX12_counts RX12 wsX12_counts 6 rmX12_counts (some .int)) {rec5 : Int32 × Int32 × St → Option (Int32 × St)} (v1 : Int32) (v2 : Int32) (v4 : Int32) (w0 : Int32) (hrec5 : ∀ (s : Int32 × Int32 × St) (r : Int32 × St), rec5 s = some r → G X (QM mkI X r) s.2.2 5 [(0, .ref (ad X 12)), (1, .int v1), (2, .int v2), (3, .int (s.1)), (4, .int (s.2.1))] []) (S : St) {r0 : Int32 × St} (h : f_X12_counts_b86 rec5 v1 v2 v4 w0 S = some r0) : G X (QM mkI X r0) S 86 [(0, .ref (ad X 12)), (1, .int v1), (2, .int v2), (4, .int v4)] [.int w0] := by
  unfold f_X12_counts_b86 at h
  refine g_istore_n (pc := 86) C [(3, .int w0), (0, .ref (ad X 12)), (1, .int v1), (2, .int v2), (4, .int v4)] dX12_counts_86 rfl (Nat.le_of_ble_eq_true rfl) rfl ?_
  refine g_iinc (pc := 87) (v := v4 + 1) C [(4, .int (v4 + 1)), (3, .int w0), (0, .ref (ad X 12)), (1, .int v1), (2, .int v2)] dX12_counts_87 4 rfl rfl (Nat.le_of_ble_eq_true rfl) rfl ?_
  refine g_goto (pc := 90) (tgt := 5) C dX12_counts_90 (by decide) ?_
  refine g_weak (lv1 := [(0, .ref (ad X 12)), (1, .int v1), (2, .int v2), (3, .int w0), (4, .int (v4 + 1))]) [2, 3, 4, 1, 0] rfl ?_
  exact hrec5 (w0, v4 + 1, S) _ h
set_option maxRecDepth 100000 in
set_option maxHeartbeats 4000000 in
theorem s_X12_counts_b85 {X : MC} (C : Cx X cX12_counts RX12 wsX12_counts 6 rmX12_counts (some .int)) {rec5 : Int32 × Int32 × St → Option (Int32 × St)} (v1 : Int32) (v2 : Int32) (v3 : Int32) (v4 : Int32) (hrec5 : ∀ (s : Int32 × Int32 × St) (r : Int32 × St), rec5 s = some r → G X (QM mkI X r) s.2.2 5 [(0, .ref (ad X 12)), (1, .int v1), (2, .int v2), (3, .int (s.1)), (4, .int (s.2.1))] []) (S : St) {r0 : Int32 × St} (h : f_X12_counts_b85 rec5 v1 v2 v3 v4 S = some r0) : G X (QM mkI X r0) S 85 [(0, .ref (ad X 12)), (1, .int v1), (2, .int v2), (3, .int v3), (4, .int v4)] [] := by
  unfold f_X12_counts_b85 at h
  refine g_iload_n (pc := 85) C dX12_counts_85 rfl 3 rfl ?_
  refine g_weak (lv1 := [(0, .ref (ad X 12)), (1, .int v1), (2, .int v2), (4, .int v4)]) [0, 1, 2, 4] rfl ?_
  exact s_X12_counts_b86 C v1 v2 v4 v3 hrec5  S h
set_option maxRecDepth 100000 in
set_option maxHeartbeats 4000000 in
theorem s_X12_counts_b80 {X : MC} (C : Cx X cX12_counts RX12 wsX12_counts 6 rmX12_counts (some .int)) {rec5 : Int32 × Int32 × St → Option (Int32 × St)} (v1 : Int32) (v2 : Int32) (v4 : Int32) (hrec5 : ∀ (s : Int32 × Int32 × St) (r : Int32 × St), rec5 s = some r → G X (QM mkI X r) s.2.2 5 [(0, .ref (ad X 12)), (1, .int v1), (2, .int v2), (3, .int (s.1)), (4, .int (s.2.1))] []) (S : St) {r0 : Int32 × St} (h : f_X12_counts_b80 rec5 v1 v2 v4 S = some r0) : G X (QM mkI X r0) S 80 [(0, .ref (ad X 12)), (1, .int v1), (2, .int v2), (4, .int v4)] [] := by
  unfold f_X12_counts_b80 at h
  refine g_iload (pc := 80) C dX12_counts_80 3 rfl ?_
  refine g_goto (pc := 82) (tgt := 86) C dX12_counts_82 (by decide) ?_
  refine g_weak (lv1 := [(0, .ref (ad X 12)), (1, .int v1), (2, .int v2), (4, .int v4)]) [0, 1, 2, 3] rfl ?_
  exact s_X12_counts_b86 C v1 v2 v4 v4 hrec5  S h
set_option maxRecDepth 100000 in
set_option maxHeartbeats 4000000 in
theorem s_X12_counts_b52 {X : MC} (C : Cx X cX12_counts RX12 wsX12_counts 6 rmX12_counts (some .int)) {rec5 : Int32 × Int32 × St → Option (Int32 × St)} (v1 : Int32) (v2 : Int32) (v3 : Int32) (v4 : Int32) (w0 : Int32) (hrec5 : ∀ (s : Int32 × Int32 × St) (r : Int32 × St), rec5 s = some r → G X (QM mkI X r) s.2.2 5 [(0, .ref (ad X 12)), (1, .int v1), (2, .int v2), (3, .int (s.1)), (4, .int (s.2.1))] []) (S : St) {r0 : Int32 × St} (h : f_X12_counts_b52 rec5 v1 v2 v3 v4 w0 S = some r0) : G X (QM mkI X r0) S 52 [(0, .ref (ad X 12)), (1, .int v1), (2, .int v2), (3, .int v3), (4, .int v4)] [.int w0] := by
  unfold f_X12_counts_b52 at h
  refine g_istore (pc := 52) C [(5, .int w0), (0, .ref (ad X 12)), (1, .int v1), (2, .int v2), (3, .int v3), (4, .int v4)] dX12_counts_52 (Nat.le_of_ble_eq_true rfl) rfl ?_
  refine g_iload (pc := 54) C dX12_counts_54 0 rfl ?_
  refine g_if_eq (pc := 56) (tgt := 85) C h dX12_counts_56 (by decide) (fun h => ?_) (fun h => ?_)
  · refine g_weak (lv1 := [(0, .ref (ad X 12)), (1, .int v1), (2, .int v2), (3, .int v3), (4, .int v4)]) [1, 2, 3, 4, 5] rfl ?_
    exact s_X12_counts_b85 C v1 v2 v3 v4 hrec5  S h
  · refine g_iload_n (pc := 59) C dX12_counts_59 rfl 4 rfl ?_
    refine g_iconst (pc := 60) (v := (-1)) C dX12_counts_60 (by decide) ?_
    refine g_icmp_eq (pc := 61) (tgt := 80) C h dX12_counts_61 (by decide) (fun h => ?_) (fun h => ?_)
    · refine g_weak (lv1 := [(0, .ref (ad X 12)), (1, .int v1), (2, .int v2), (4, .int v4)]) [1, 2, 3, 5] rfl ?_
      exact s_X12_counts_b80 C v1 v2 v4 hrec5  S h
    · refine g_aload_n (pc := 64) C dX12_counts_64 rfl 1 rfl ?_
      refine g_get (pc := 65) C 12 (w_12 _ _) rfl 21 (Nat.le_of_ble_eq_true rfl) in_X12_X12_counts k60_X12_counts rfl dX12_counts_65 ?_
      refine g_iload (pc := 68) C dX12_counts_68 5 rfl ?_
      refine g_iald (pc := 70) C 63 (w_63 _ _) h dX12_counts_70 (fun h => ?_)
      refine g_aload_n (pc := 71) C dX12_counts_71 rfl 1 rfl ?_
      refine g_get (pc := 72) C 12 (w_12 _ _) rfl 21 (Nat.le_of_ble_eq_true rfl) in_X12_X12_counts k60_X12_counts rfl dX12_counts_72 ?_
      refine g_iload_n (pc := 75) C dX12_counts_75 rfl 4 rfl ?_
      refine g_iald (pc := 76) C 63 (w_63 _ _) h dX12_counts_76 (fun h => ?_)
      refine g_icmp_lt (pc := 77) (tgt := 85) C h dX12_counts_77 (by decide) (fun h => ?_) (fun h => ?_)
      · refine g_weak (lv1 := [(0, .ref (ad X 12)), (1, .int v1), (2, .int v2), (3, .int v3), (4, .int v4)]) [1, 2, 3, 4, 5] rfl ?_
        exact s_X12_counts_b85 C v1 v2 v3 v4 hrec5  S h
      · refine g_weak (lv1 := [(0, .ref (ad X 12)), (1, .int v1), (2, .int v2), (4, .int v4)]) [1, 2, 3, 5] rfl ?_
        exact s_X12_counts_b80 C v1 v2 v4 hrec5  S h
set_option maxRecDepth 100000 in
set_option maxHeartbeats 4000000 in
theorem s_X12_counts_b51 {X : MC} (C : Cx X cX12_counts RX12 wsX12_counts 6 rmX12_counts (some .int)) {rec5 : Int32 × Int32 × St → Option (Int32 × St)} (v1 : Int32) (v2 : Int32) (v3 : Int32) (v4 : Int32) (hrec5 : ∀ (s : Int32 × Int32 × St) (r : Int32 × St), rec5 s = some r → G X (QM mkI X r) s.2.2 5 [(0, .ref (ad X 12)), (1, .int v1), (2, .int v2), (3, .int (s.1)), (4, .int (s.2.1))] []) (S : St) {r0 : Int32 × St} (h : f_X12_counts_b51 rec5 v1 v2 v3 v4 S = some r0) : G X (QM mkI X r0) S 51 [(0, .ref (ad X 12)), (1, .int v1), (2, .int v2), (3, .int v3), (4, .int v4)] [] := by
  unfold f_X12_counts_b51 at h
  refine g_iconst (pc := 51) (v := 0) C dX12_counts_51 (by decide) ?_
  refine g_weak (lv1 := [(0, .ref (ad X 12)), (1, .int v1), (2, .int v2), (3, .int v3), (4, .int v4)]) [0, 1, 2, 3, 4] rfl ?_
  exact s_X12_counts_b52 C v1 v2 v3 v4 0 hrec5  S h
set_option maxRecDepth 100000 in
set_option maxHeartbeats 4000000 in
theorem s_X12_counts_b47 {X : MC} (C : Cx X cX12_counts RX12 wsX12_counts 6 rmX12_counts (some .int)) {rec5 : Int32 × Int32 × St → Option (Int32 × St)} (v1 : Int32) (v2 : Int32) (v3 : Int32) (v4 : Int32) (hrec5 : ∀ (s : Int32 × Int32 × St) (r : Int32 × St), rec5 s = some r → G X (QM mkI X r) s.2.2 5 [(0, .ref (ad X 12)), (1, .int v1), (2, .int v2), (3, .int (s.1)), (4, .int (s.2.1))] []) (S : St) {r0 : Int32 × St} (h : f_X12_counts_b47 rec5 v1 v2 v3 v4 S = some r0) : G X (QM mkI X r0) S 47 [(0, .ref (ad X 12)), (1, .int v1), (2, .int v2), (3, .int v3), (4, .int v4)] [] := by
  unfold f_X12_counts_b47 at h
  refine g_iconst (pc := 47) (v := 1) C dX12_counts_47 (by decide) ?_
  refine g_goto (pc := 48) (tgt := 52) C dX12_counts_48 (by decide) ?_
  refine g_weak (lv1 := [(0, .ref (ad X 12)), (1, .int v1), (2, .int v2), (3, .int v3), (4, .int v4)]) [0, 1, 2, 3, 4] rfl ?_
  exact s_X12_counts_b52 C v1 v2 v3 v4 1 hrec5  S h
set_option maxRecDepth 100000 in
set_option maxHeartbeats 4000000 in
theorem s_X12_counts_b5 {X : MC} (C : Cx X cX12_counts RX12 wsX12_counts 6 rmX12_counts (some .int)) {rec5 : Int32 × Int32 × St → Option (Int32 × St)} (v1 : Int32) (v2 : Int32) (v3 : Int32) (v4 : Int32) (hrec5 : ∀ (s : Int32 × Int32 × St) (r : Int32 × St), rec5 s = some r → G X (QM mkI X r) s.2.2 5 [(0, .ref (ad X 12)), (1, .int v1), (2, .int v2), (3, .int (s.1)), (4, .int (s.2.1))] []) (S : St) {r0 : Int32 × St} (h : f_X12_counts_b5 rec5 v1 v2 v3 v4 S = some r0) : G X (QM mkI X r0) S 5 [(0, .ref (ad X 12)), (1, .int v1), (2, .int v2), (3, .int v3), (4, .int v4)] [] := by
  unfold f_X12_counts_b5 at h
  refine g_iload (pc := 5) C dX12_counts_5 4 rfl ?_
  refine g_aload_n (pc := 7) C dX12_counts_7 rfl 0 rfl ?_
  refine g_get (pc := 8) C 12 (w_12 _ _) rfl 17 (Nat.le_of_ble_eq_true rfl) in_X12_X12_counts k193_X12_counts rfl dX12_counts_8 ?_
  refine g_icmp_ge (pc := 11) (tgt := 93) C h dX12_counts_11 (by decide) (fun h => ?_) (fun h => ?_)
  · refine g_iload_n (pc := 93) C dX12_counts_93 rfl 3 rfl ?_
    exact g_iret (pc := 94) C h dX12_counts_94
  · refine g_aload_n (pc := 14) C dX12_counts_14 rfl 0 rfl ?_
    refine g_get (pc := 15) C 12 (w_12 _ _) rfl 19 (Nat.le_of_ble_eq_true rfl) in_X12_X12_counts k54_X12_counts rfl dX12_counts_15 ?_
    refine g_iload (pc := 18) C dX12_counts_18 4 rfl ?_
    refine g_iald (pc := 20) C 61 (w_61 _ _) h dX12_counts_20 (fun h => ?_)
    refine g_iload_n (pc := 21) C dX12_counts_21 rfl 2 rfl ?_
    refine g_icmp_ne (pc := 22) (tgt := 51) C h dX12_counts_22 (by decide) (fun h => ?_) (fun h => ?_)
    · refine g_weak (lv1 := [(0, .ref (ad X 12)), (1, .int v1), (2, .int v2), (3, .int v3), (4, .int v4)]) [0, 1, 2, 3, 4] rfl ?_
      exact s_X12_counts_b51 C v1 v2 v3 v4 hrec5  S h
    · refine g_aload_n (pc := 25) C dX12_counts_25 rfl 0 rfl ?_
      refine g_get (pc := 26) C 12 (w_12 _ _) rfl 18 (Nat.le_of_ble_eq_true rfl) in_X12_X12_counts k51_X12_counts rfl dX12_counts_26 ?_
      refine g_iload (pc := 29) C dX12_counts_29 4 rfl ?_
      refine g_iald (pc := 31) C 60 (w_60 _ _) h dX12_counts_31 (fun h => ?_)
      refine g_iconst (pc := 32) (v := (-1)) C dX12_counts_32 (by decide) ?_
      refine g_icmp_eq (pc := 33) (tgt := 47) C h dX12_counts_33 (by decide) (fun h => ?_) (fun h => ?_)
      · refine g_weak (lv1 := [(0, .ref (ad X 12)), (1, .int v1), (2, .int v2), (3, .int v3), (4, .int v4)]) [0, 1, 2, 3, 4] rfl ?_
        exact s_X12_counts_b47 C v1 v2 v3 v4 hrec5  S h
      · refine g_aload_n (pc := 36) C dX12_counts_36 rfl 0 rfl ?_
        refine g_get (pc := 37) C 12 (w_12 _ _) rfl 18 (Nat.le_of_ble_eq_true rfl) in_X12_X12_counts k51_X12_counts rfl dX12_counts_37 ?_
        refine g_iload (pc := 40) C dX12_counts_40 4 rfl ?_
        refine g_iald (pc := 42) C 60 (w_60 _ _) h dX12_counts_42 (fun h => ?_)
        refine g_iload_n (pc := 43) C dX12_counts_43 rfl 1 rfl ?_
        refine g_icmp_ne (pc := 44) (tgt := 51) C h dX12_counts_44 (by decide) (fun h => ?_) (fun h => ?_)
        · refine g_weak (lv1 := [(0, .ref (ad X 12)), (1, .int v1), (2, .int v2), (3, .int v3), (4, .int v4)]) [0, 1, 2, 3, 4] rfl ?_
          exact s_X12_counts_b51 C v1 v2 v3 v4 hrec5  S h
        · refine g_weak (lv1 := [(0, .ref (ad X 12)), (1, .int v1), (2, .int v2), (3, .int v3), (4, .int v4)]) [0, 1, 2, 3, 4] rfl ?_
          exact s_X12_counts_b47 C v1 v2 v3 v4 hrec5  S h
set_option maxRecDepth 100000 in
set_option maxHeartbeats 4000000 in
theorem s_X12_counts_l5 {X : MC} (C : Cx X cX12_counts RX12 wsX12_counts 6 rmX12_counts (some .int)) (v1 : Int32) (v2 : Int32) : ∀ (n : Nat) (s : Int32 × Int32 × St) (r : Int32 × St), f_X12_counts_l5 v1 v2 n s = some r → G X (QM mkI X r) s.2.2 5 [(0, .ref (ad X 12)), (1, .int v1), (2, .int v2), (3, .int (s.1)), (4, .int (s.2.1))] [] :=
  loop_sound (fun rec5 hrec5 s r h => s_X12_counts_b5 C v1 v2 s.1 s.2.1 hrec5 s.2.2 h)
set_option maxRecDepth 100000 in
set_option maxHeartbeats 4000000 in
theorem s_X12_counts_b0 {X : MC} (C : Cx X cX12_counts RX12 wsX12_counts 6 rmX12_counts (some .int)) (a1 : Int32) (a2 : Int32) (S : St) {r0 : Int32 × St} (h : f_X12_counts_b0 a1 a2 S = some r0) : G X (QM mkI X r0) S 0 [(0, .ref (ad X 12)), (1, .int a1), (2, .int a2)] [] := by
  unfold f_X12_counts_b0 at h
  refine g_iconst (pc := 0) (v := (-1)) C dX12_counts_0 (by decide) ?_
  refine g_istore_n (pc := 1) C [(3, .int (-1)), (0, .ref (ad X 12)), (1, .int a1), (2, .int a2)] dX12_counts_1 rfl (Nat.le_of_ble_eq_true rfl) rfl ?_
  refine g_iconst (pc := 2) (v := 0) C dX12_counts_2 (by decide) ?_
  refine g_istore (pc := 3) C [(4, .int 0), (3, .int (-1)), (0, .ref (ad X 12)), (1, .int a1), (2, .int a2)] dX12_counts_3 (Nat.le_of_ble_eq_true rfl) rfl ?_
  refine g_weak (lv1 := [(0, .ref (ad X 12)), (1, .int a1), (2, .int a2), (3, .int (-1)), (4, .int 0)]) [2, 3, 4, 1, 0] rfl ?_
  exact s_X12_counts_l5 C a1 a2 _ ((-1), 0, S) _ h
theorem c_X12_counts (l : Launch) (b : Bw) (a1 : Int32) (a2 : Int32) (S : St) : Ct l b yX12_counts wsX12_counts rmX12_counts [.ref (bad b 12), .int a1, .int a2] S mkI (f_X12_counts a1 a2 S) := Ct.of (by decide +kernel) rfl (Nat.le_of_ble_eq_true rfl) (fun X C hl hb r h => by
  subst hl; subst hb
  exact s_X12_counts_b0 C a1 a2 S h)
/-! StyleRowsModel.usual(I)I -/
set_option maxRecDepth 100000 in
set_option maxHeartbeats 4000000 in
theorem s_X12_usual_b96 {X : MC} (C : Cx X cX12_usual RX12 wsX12_usual 1 rmX12_usual (some .int)) (S : St) {r0 : Int32 × St} (h : f_X12_usual_b96 S = some r0) : G X (QM mkI X r0) S 96 [] [] := by
  unfold f_X12_usual_b96 at h
  refine g_iconst (pc := 96) (v := 0) C dX12_usual_96 (by decide) ?_
  exact g_iret (pc := 97) C h dX12_usual_97
set_option maxRecDepth 100000 in
set_option maxHeartbeats 4000000 in
theorem s_X12_usual_b0 {X : MC} (C : Cx X cX12_usual RX12 wsX12_usual 1 rmX12_usual (some .int)) (a1 : Int32) (S : St) {r0 : Int32 × St} (h : f_X12_usual_b0 a1 S = some r0) : G X (QM mkI X r0) S 0 [(0, .int a1)] [] := by
  unfold f_X12_usual_b0 at h
  refine g_iload_n (pc := 0) C dX12_usual_0 rfl 0 rfl ?_
  by_cases hq1 : a1 = 0
  · replace h := ite_t h hq1
    refine g_swIn (pc := 1) (tgt := 64) C 0 hq1 dX12_usual_1 (by decide) (by decide) rfl (by decide) ?_
    refine g_bipush (pc := 64) (v := 50) C dX12_usual_64 (by decide) ?_
    exact g_iret (pc := 66) C h dX12_usual_66
  replace h := ite_f h hq1
  by_cases hq2 : a1 = 1
  · replace h := ite_t h hq2
    refine g_swIn (pc := 1) (tgt := 67) C 1 hq2 dX12_usual_1 (by decide) (by decide) rfl (by decide) ?_
    refine g_bipush (pc := 67) (v := 90) C dX12_usual_67 (by decide) ?_
    exact g_iret (pc := 69) C h dX12_usual_69
  replace h := ite_f h hq2
  by_cases hq3 : a1 = 2
  · replace h := ite_t h hq3
    refine g_swIn (pc := 1) (tgt := 70) C 2 hq3 dX12_usual_1 (by decide) (by decide) rfl (by decide) ?_
    refine g_bipush (pc := 70) (v := 100) C dX12_usual_70 (by decide) ?_
    exact g_iret (pc := 72) C h dX12_usual_72
  replace h := ite_f h hq3
  by_cases hq4 : a1 = 3
  · replace h := ite_t h hq4
    refine g_swIn (pc := 1) (tgt := 73) C 3 hq4 dX12_usual_1 (by decide) (by decide) rfl (by decide) ?_
    refine g_bipush (pc := 73) (v := 10) C dX12_usual_73 (by decide) ?_
    exact g_iret (pc := 75) C h dX12_usual_75
  replace h := ite_f h hq4
  by_cases hq5 : a1 = 4
  · replace h := ite_t h hq5
    refine g_swIn (pc := 1) (tgt := 76) C 4 hq5 dX12_usual_1 (by decide) (by decide) rfl (by decide) ?_
    refine g_bipush (pc := 76) (v := 16) C dX12_usual_76 (by decide) ?_
    exact g_iret (pc := 78) C h dX12_usual_78
  replace h := ite_f h hq5
  by_cases hq6 : a1 = 5
  · replace h := ite_t h hq6
    refine g_swIn (pc := 1) (tgt := 79) C 5 hq6 dX12_usual_1 (by decide) (by decide) rfl (by decide) ?_
    refine g_bipush (pc := 79) (v := 8) C dX12_usual_79 (by decide) ?_
    exact g_iret (pc := 81) C h dX12_usual_81
  replace h := ite_f h hq6
  by_cases hq7 : a1 = 6
  · replace h := ite_t h hq7
    refine g_swIn (pc := 1) (tgt := 82) C 6 hq7 dX12_usual_1 (by decide) (by decide) rfl (by decide) ?_
    refine g_iconst (pc := 82) (v := 4) C dX12_usual_82 (by decide) ?_
    exact g_iret (pc := 83) C h dX12_usual_83
  replace h := ite_f h hq7
  by_cases hq8 : a1 = 7
  · replace h := ite_t h hq8
    refine g_swIn (pc := 1) (tgt := 84) C 7 hq8 dX12_usual_1 (by decide) (by decide) rfl (by decide) ?_
    refine g_bipush (pc := 84) (v := 30) C dX12_usual_84 (by decide) ?_
    exact g_iret (pc := 86) C h dX12_usual_86
  replace h := ite_f h hq8
  by_cases hq9 : a1 = 8
  · replace h := ite_t h hq9
    refine g_swIn (pc := 1) (tgt := 96) C 8 hq9 dX12_usual_1 (by decide) (by decide) rfl (by decide) ?_
    refine g_weak (lv1 := []) [] rfl ?_
    exact s_X12_usual_b96 C   S h
  replace h := ite_f h hq9
  by_cases hq10 : a1 = 9
  · replace h := ite_t h hq10
    refine g_swIn (pc := 1) (tgt := 87) C 9 hq10 dX12_usual_1 (by decide) (by decide) rfl (by decide) ?_
    refine g_bipush (pc := 87) (v := 20) C dX12_usual_87 (by decide) ?_
    exact g_iret (pc := 89) C h dX12_usual_89
  replace h := ite_f h hq10
  by_cases hq11 : a1 = 10
  · replace h := ite_t h hq11
    refine g_swIn (pc := 1) (tgt := 90) C 10 hq11 dX12_usual_1 (by decide) (by decide) rfl (by decide) ?_
    refine g_bipush (pc := 90) (v := 40) C dX12_usual_90 (by decide) ?_
    exact g_iret (pc := 92) C h dX12_usual_92
  replace h := ite_f h hq11
  by_cases hq12 : a1 = 11
  · replace h := ite_t h hq12
    refine g_swIn (pc := 1) (tgt := 93) C 11 hq12 dX12_usual_1 (by decide) (by decide) rfl (by decide) ?_
    refine g_bipush (pc := 93) (v := 12) C dX12_usual_93 (by decide) ?_
    exact g_iret (pc := 95) C h dX12_usual_95
  replace h := ite_f h hq12
  refine g_swOut (pc := 1) (tgt := 96) C (sw_out_11 hq1 hq2 hq3 hq4 hq5 hq6 hq7 hq8 hq9 hq10 hq11 hq12) dX12_usual_1 (by decide) ?_
  refine g_weak (lv1 := []) [] rfl ?_
  exact s_X12_usual_b96 C   S h
theorem c_X12_usual (l : Launch) (b : Bw) (a1 : Int32) (S : St) : Ct l b yX12_usual wsX12_usual rmX12_usual [.int a1] S mkI (f_X12_usual a1 S) := Ct.of (by decide +kernel) rfl (Nat.le_of_ble_eq_true rfl) (fun X C hl hb r h => by
  subst hl; subst hb
  exact s_X12_usual_b0 C a1 S h)
/-! StyleRowsModel.number(II)I -/
set_option maxRecDepth 100000 in
set_option maxHeartbeats 4000000 in
theorem s_X12_number_b25 {X : MC} (C : Cx X cX12_number RX12 wsX12_number 4 rmX12_number (some .int)) (w0 : Int32) (S : St) {r0 : Int32 × St} (h : f_X12_number_b25 w0 S = some r0) : G X (QM mkI X r0) S 25 [] [.int w0] := by
  unfold f_X12_number_b25 at h
  exact g_iret (pc := 25) C h dX12_number_25
set_option maxRecDepth 100000 in
set_option maxHeartbeats 4000000 in
theorem s_X12_number_b0 {X : MC} (C : Cx X cX12_number RX12 wsX12_number 4 rmX12_number (some .int)) (a1 : Int32) (a2 : Int32) (S : St) {r0 : Int32 × St} (h : f_X12_number_b0 a1 a2 S = some r0) : G X (QM mkI X r0) S 0 [(0, .ref (ad X 12)), (1, .int a1), (2, .int a2)] [] := by
  unfold f_X12_number_b0 at h
  refine g_aload_n (pc := 0) C dX12_number_0 rfl 0 rfl ?_
  refine g_iload_n (pc := 1) C dX12_number_1 rfl 1 rfl ?_
  refine g_iload_n (pc := 2) C dX12_number_2 rfl 2 rfl ?_
  refine g_callV (pc := 3) C 12 (c_X12_counts (Xl X) (Xb X) a1 a2 S) gX12_number_X12_counts rfl rfl rfl hd_X12_counts ⟨Nat.le_of_ble_eq_true rfl, Nat.le_of_ble_eq_true rfl⟩ (w_12 _ _) rfl rfl rfl (Nat.le_of_ble_eq_true rfl) dX12_number_3 h (fun r2 S1 h => ?_)
  change G X _ S1 6 [(0, .ref (ad X 12)), (1, .int a1), (2, .int a2)] [.int r2]
  refine g_istore_n (pc := 6) C [(3, .int r2), (0, .ref (ad X 12)), (1, .int a1), (2, .int a2)] dX12_number_6 rfl (Nat.le_of_ble_eq_true rfl) rfl ?_
  refine g_iload_n (pc := 7) C dX12_number_7 rfl 0 rfl ?_
  refine g_iconst (pc := 8) (v := (-1)) C dX12_number_8 (by decide) ?_
  refine g_icmp_ne (pc := 9) (tgt := 19) C h dX12_number_9 (by decide) (fun h => ?_) (fun h => ?_)
  · refine g_aload_n (pc := 19) C dX12_number_19 rfl 1 rfl ?_
    refine g_get (pc := 20) C 12 (w_12 _ _) rfl 20 (Nat.le_of_ble_eq_true rfl) in_X12_X12_number k57_X12_number rfl dX12_number_20 ?_
    refine g_iload_n (pc := 23) C dX12_number_23 rfl 0 rfl ?_
    refine g_iald (pc := 24) C 62 (w_62 _ _) h dX12_number_24 (fun h => ?_)
    refine g_weak (lv1 := []) [] rfl ?_
    exact s_X12_number_b25 C (rd S1 62 r2)  S1 h
  · refine g_iload_n (pc := 12) C dX12_number_12 rfl 3 rfl ?_
    refine g_callS (pc := 13) C (c_X12_usual (Xl X) (Xb X) a2 S1) gX12_number_X12_usual rfl rfl rfl hd_X12_usual ⟨Nat.le_of_ble_eq_true rfl, Nat.le_of_ble_eq_true rfl⟩ rfl rfl (Nat.le_of_ble_eq_true rfl) dX12_number_13 h (fun r4 S3 h => ?_)
    change G X _ S3 16 [(3, .int r2), (0, .ref (ad X 12)), (1, .int a1), (2, .int a2)] [.int r4]
    refine g_goto (pc := 16) (tgt := 25) C dX12_number_16 (by decide) ?_
    refine g_weak (lv1 := []) [] rfl ?_
    exact s_X12_number_b25 C r4  S3 h
theorem c_X12_number (l : Launch) (b : Bw) (a1 : Int32) (a2 : Int32) (S : St) : Ct l b yX12_number wsX12_number rmX12_number [.ref (bad b 12), .int a1, .int a2] S mkI (f_X12_number a1 a2 S) := Ct.of (by decide +kernel) rfl (Nat.le_of_ble_eq_true rfl) (fun X C hl hb r h => by
  subst hl; subst hb
  exact s_X12_number_b0 C a1 a2 S h)
/-! StyleRowsModel.value(II)I -/
set_option maxRecDepth 100000 in
set_option maxHeartbeats 4000000 in
theorem s_X12_value_b36 {X : MC} (C : Cx X cX12_value RX12 wsX12_value 3 rmX12_value (some .int)) (w0 : Int32) (S : St) {r0 : Int32 × St} (h : f_X12_value_b36 w0 S = some r0) : G X (QM mkI X r0) S 36 [] [.int w0] := by
  unfold f_X12_value_b36 at h
  exact g_iret (pc := 36) C h dX12_value_36
set_option maxRecDepth 100000 in
set_option maxHeartbeats 4000000 in
theorem s_X12_value_b33 {X : MC} (C : Cx X cX12_value RX12 wsX12_value 3 rmX12_value (some .int)) (S : St) {r0 : Int32 × St} (h : f_X12_value_b33 S = some r0) : G X (QM mkI X r0) S 33 [] [] := by
  unfold f_X12_value_b33 at h
  refine g_sipush (pc := 33) (v := (-1001)) C dX12_value_33 (by decide) ?_
  refine g_weak (lv1 := []) [] rfl ?_
  exact s_X12_value_b36 C (-1001)  S h
set_option maxRecDepth 100000 in
set_option maxHeartbeats 4000000 in
theorem s_X12_value_b0 {X : MC} (C : Cx X cX12_value RX12 wsX12_value 3 rmX12_value (some .int)) (a1 : Int32) (a2 : Int32) (S : St) {r0 : Int32 × St} (h : f_X12_value_b0 a1 a2 S = some r0) : G X (QM mkI X r0) S 0 [(0, .ref (ad X 12)), (1, .int a1), (2, .int a2)] [] := by
  unfold f_X12_value_b0 at h
  refine g_iload_n (pc := 0) C dX12_value_0 rfl 1 rfl ?_
  refine g_i2l (pc := 1) C dX12_value_1 ?_
  refine g_lconst (pc := 2) (v := 0) C dX12_value_2 (by decide) ?_
  refine g_ldc2 (pc := 3) (v := 3) C k76_X12_value dX12_value_3 ?_
  refine g_callS (pc := 6) C (c_X12_in (Xl X) (Xb X) (Int32.toInt64 a1) 0 3 S) gX12_value_X12_in rfl rfl rfl hd_X12_in ⟨Nat.le_of_ble_eq_true rfl, Nat.le_of_ble_eq_true rfl⟩ rfl rfl (Nat.le_of_ble_eq_true rfl) dX12_value_6 h (fun r2 S1 h => ?_)
  change G X _ S1 9 [(0, .ref (ad X 12)), (1, .int a1), (2, .int a2)] [.int r2]
  refine g_if_eq (pc := 9) (tgt := 33) C h dX12_value_9 (by decide) (fun h => ?_) (fun h => ?_)
  · refine g_weak (lv1 := []) [] rfl ?_
    exact s_X12_value_b33 C   S1 h
  · refine g_iload_n (pc := 12) C dX12_value_12 rfl 2 rfl ?_
    refine g_i2l (pc := 13) C dX12_value_13 ?_
    refine g_lconst (pc := 14) (v := 0) C dX12_value_14 (by decide) ?_
    refine g_ldc2 (pc := 15) (v := 12) C k86_X12_value dX12_value_15 ?_
    refine g_callS (pc := 18) C (c_X12_in (Xl X) (Xb X) (Int32.toInt64 a2) 0 12 S1) gX12_value_X12_in rfl rfl rfl hd_X12_in ⟨Nat.le_of_ble_eq_true rfl, Nat.le_of_ble_eq_true rfl⟩ rfl rfl (Nat.le_of_ble_eq_true rfl) dX12_value_18 h (fun r4 S3 h => ?_)
    change G X _ S3 21 [(0, .ref (ad X 12)), (1, .int a1), (2, .int a2)] [.int r4]
    refine g_if_eq (pc := 21) (tgt := 33) C h dX12_value_21 (by decide) (fun h => ?_) (fun h => ?_)
    · refine g_weak (lv1 := []) [] rfl ?_
      exact s_X12_value_b33 C   S3 h
    · refine g_aload_n (pc := 24) C dX12_value_24 rfl 0 rfl ?_
      refine g_iload_n (pc := 25) C dX12_value_25 rfl 1 rfl ?_
      refine g_iload_n (pc := 26) C dX12_value_26 rfl 2 rfl ?_
      refine g_callV (pc := 27) C 12 (c_X12_number (Xl X) (Xb X) a1 a2 S3) gX12_value_X12_number rfl rfl rfl hd_X12_number ⟨Nat.le_of_ble_eq_true rfl, Nat.le_of_ble_eq_true rfl⟩ (w_12 _ _) rfl rfl rfl (Nat.le_of_ble_eq_true rfl) dX12_value_27 h (fun r6 S5 h => ?_)
      change G X _ S5 30 [(0, .ref (ad X 12)), (1, .int a1), (2, .int a2)] [.int r6]
      refine g_goto (pc := 30) (tgt := 36) C dX12_value_30 (by decide) ?_
      refine g_weak (lv1 := []) [] rfl ?_
      exact s_X12_value_b36 C r6  S5 h
theorem c_X12_value (l : Launch) (b : Bw) (a1 : Int32) (a2 : Int32) (S : St) : Ct l b yX12_value wsX12_value rmX12_value [.ref (bad b 12), .int a1, .int a2] S mkI (f_X12_value a1 a2 S) := Ct.of (by decide +kernel) rfl (Nat.le_of_ble_eq_true rfl) (fun X C hl hb r h => by
  subst hl; subst hb
  exact s_X12_value_b0 C a1 a2 S h)
/-! StyleRowsModel.why(II)I -/
set_option maxRecDepth 100000 in
set_option maxHeartbeats 4000000 in
theorem s_X12_why_b36 {X : MC} (C : Cx X cX12_why RX12 wsX12_why 3 rmX12_why (some .int)) (w0 : Int32) (S : St) {r0 : Int32 × St} (h : f_X12_why_b36 w0 S = some r0) : G X (QM mkI X r0) S 36 [] [.int w0] := by
  unfold f_X12_why_b36 at h
  exact g_iret (pc := 36) C h dX12_why_36
set_option maxRecDepth 100000 in
set_option maxHeartbeats 4000000 in
theorem s_X12_why_b33 {X : MC} (C : Cx X cX12_why RX12 wsX12_why 3 rmX12_why (some .int)) (S : St) {r0 : Int32 × St} (h : f_X12_why_b33 S = some r0) : G X (QM mkI X r0) S 33 [] [] := by
  unfold f_X12_why_b33 at h
  refine g_sipush (pc := 33) (v := (-1001)) C dX12_why_33 (by decide) ?_
  refine g_weak (lv1 := []) [] rfl ?_
  exact s_X12_why_b36 C (-1001)  S h
set_option maxRecDepth 100000 in
set_option maxHeartbeats 4000000 in
theorem s_X12_why_b0 {X : MC} (C : Cx X cX12_why RX12 wsX12_why 3 rmX12_why (some .int)) (a1 : Int32) (a2 : Int32) (S : St) {r0 : Int32 × St} (h : f_X12_why_b0 a1 a2 S = some r0) : G X (QM mkI X r0) S 0 [(0, .ref (ad X 12)), (1, .int a1), (2, .int a2)] [] := by
  unfold f_X12_why_b0 at h
  refine g_iload_n (pc := 0) C dX12_why_0 rfl 1 rfl ?_
  refine g_i2l (pc := 1) C dX12_why_1 ?_
  refine g_lconst (pc := 2) (v := 0) C dX12_why_2 (by decide) ?_
  refine g_ldc2 (pc := 3) (v := 3) C k76_X12_why dX12_why_3 ?_
  refine g_callS (pc := 6) C (c_X12_in (Xl X) (Xb X) (Int32.toInt64 a1) 0 3 S) gX12_why_X12_in rfl rfl rfl hd_X12_in ⟨Nat.le_of_ble_eq_true rfl, Nat.le_of_ble_eq_true rfl⟩ rfl rfl (Nat.le_of_ble_eq_true rfl) dX12_why_6 h (fun r2 S1 h => ?_)
  change G X _ S1 9 [(0, .ref (ad X 12)), (1, .int a1), (2, .int a2)] [.int r2]
  refine g_if_eq (pc := 9) (tgt := 33) C h dX12_why_9 (by decide) (fun h => ?_) (fun h => ?_)
  · refine g_weak (lv1 := []) [] rfl ?_
    exact s_X12_why_b33 C   S1 h
  · refine g_iload_n (pc := 12) C dX12_why_12 rfl 2 rfl ?_
    refine g_i2l (pc := 13) C dX12_why_13 ?_
    refine g_lconst (pc := 14) (v := 0) C dX12_why_14 (by decide) ?_
    refine g_ldc2 (pc := 15) (v := 12) C k86_X12_why dX12_why_15 ?_
    refine g_callS (pc := 18) C (c_X12_in (Xl X) (Xb X) (Int32.toInt64 a2) 0 12 S1) gX12_why_X12_in rfl rfl rfl hd_X12_in ⟨Nat.le_of_ble_eq_true rfl, Nat.le_of_ble_eq_true rfl⟩ rfl rfl (Nat.le_of_ble_eq_true rfl) dX12_why_18 h (fun r4 S3 h => ?_)
    change G X _ S3 21 [(0, .ref (ad X 12)), (1, .int a1), (2, .int a2)] [.int r4]
    refine g_if_eq (pc := 21) (tgt := 33) C h dX12_why_21 (by decide) (fun h => ?_) (fun h => ?_)
    · refine g_weak (lv1 := []) [] rfl ?_
      exact s_X12_why_b33 C   S3 h
    · refine g_aload_n (pc := 24) C dX12_why_24 rfl 0 rfl ?_
      refine g_iload_n (pc := 25) C dX12_why_25 rfl 1 rfl ?_
      refine g_iload_n (pc := 26) C dX12_why_26 rfl 2 rfl ?_
      refine g_callV (pc := 27) C 12 (c_X12_counts (Xl X) (Xb X) a1 a2 S3) gX12_why_X12_counts rfl rfl rfl hd_X12_counts ⟨Nat.le_of_ble_eq_true rfl, Nat.le_of_ble_eq_true rfl⟩ (w_12 _ _) rfl rfl rfl (Nat.le_of_ble_eq_true rfl) dX12_why_27 h (fun r6 S5 h => ?_)
      change G X _ S5 30 [(0, .ref (ad X 12)), (1, .int a1), (2, .int a2)] [.int r6]
      refine g_goto (pc := 30) (tgt := 36) C dX12_why_30 (by decide) ?_
      refine g_weak (lv1 := []) [] rfl ?_
      exact s_X12_why_b36 C r6  S5 h
theorem c_X12_why (l : Launch) (b : Bw) (a1 : Int32) (a2 : Int32) (S : St) : Ct l b yX12_why wsX12_why rmX12_why [.ref (bad b 12), .int a1, .int a2] S mkI (f_X12_why a1 a2 S) := Ct.of (by decide +kernel) rfl (Nat.le_of_ble_eq_true rfl) (fun X C hl hb r h => by
  subst hl; subst hb
  exact s_X12_why_b0 C a1 a2 S h)
/-! StyleRowsModel.cut(I)I -/
set_option maxRecDepth 100000 in
set_option maxHeartbeats 4000000 in
theorem s_X12_cut_b144 {X : MC} (C : Cx X cX12_cut RX12 wsX12_cut 7 rmX12_cut (some .int)) {rec29 : Int32 × Int32 × St → Option (Int32 × St)} (v1 : Int32) (v2 : Int32) (v4 : Int32) (w0 : Int32) (hrec29 : ∀ (s : Int32 × Int32 × St) (r : Int32 × St), rec29 s = some r → G X (QM mkI X r) s.2.2 29 [(0, .ref (ad X 12)), (1, .int v1), (2, .int v2), (3, .int (s.1)), (4, .int (s.2.1))] []) (S : St) {r0 : Int32 × St} (h : f_X12_cut_b144 rec29 v1 v2 v4 w0 S = some r0) : G X (QM mkI X r0) S 144 [(0, .ref (ad X 12)), (1, .int v1), (2, .int v2), (4, .int v4)] [.int w0] := by
  unfold f_X12_cut_b144 at h
  refine g_istore_n (pc := 144) C [(3, .int w0), (0, .ref (ad X 12)), (1, .int v1), (2, .int v2), (4, .int v4)] dX12_cut_144 rfl (Nat.le_of_ble_eq_true rfl) rfl ?_
  refine g_iinc (pc := 145) (v := v4 + 1) C [(4, .int (v4 + 1)), (3, .int w0), (0, .ref (ad X 12)), (1, .int v1), (2, .int v2)] dX12_cut_145 4 rfl rfl (Nat.le_of_ble_eq_true rfl) rfl ?_
  refine g_goto (pc := 148) (tgt := 29) C dX12_cut_148 (by decide) ?_
  refine g_weak (lv1 := [(0, .ref (ad X 12)), (1, .int v1), (2, .int v2), (3, .int w0), (4, .int (v4 + 1))]) [2, 3, 4, 1, 0] rfl ?_
  exact hrec29 (w0, v4 + 1, S) _ h
set_option maxRecDepth 100000 in
set_option maxHeartbeats 4000000 in
theorem s_X12_cut_b143 {X : MC} (C : Cx X cX12_cut RX12 wsX12_cut 7 rmX12_cut (some .int)) {rec29 : Int32 × Int32 × St → Option (Int32 × St)} (v1 : Int32) (v2 : Int32) (v3 : Int32) (v4 : Int32) (hrec29 : ∀ (s : Int32 × Int32 × St) (r : Int32 × St), rec29 s = some r → G X (QM mkI X r) s.2.2 29 [(0, .ref (ad X 12)), (1, .int v1), (2, .int v2), (3, .int (s.1)), (4, .int (s.2.1))] []) (S : St) {r0 : Int32 × St} (h : f_X12_cut_b143 rec29 v1 v2 v3 v4 S = some r0) : G X (QM mkI X r0) S 143 [(0, .ref (ad X 12)), (1, .int v1), (2, .int v2), (3, .int v3), (4, .int v4)] [] := by
  unfold f_X12_cut_b143 at h
  refine g_iload_n (pc := 143) C dX12_cut_143 rfl 3 rfl ?_
  refine g_weak (lv1 := [(0, .ref (ad X 12)), (1, .int v1), (2, .int v2), (4, .int v4)]) [0, 1, 2, 4] rfl ?_
  exact s_X12_cut_b144 C v1 v2 v4 v3 hrec29  S h
set_option maxRecDepth 100000 in
set_option maxHeartbeats 4000000 in
theorem s_X12_cut_b105 {X : MC} (C : Cx X cX12_cut RX12 wsX12_cut 7 rmX12_cut (some .int)) {rec29 : Int32 × Int32 × St → Option (Int32 × St)} (v1 : Int32) (v2 : Int32) (v3 : Int32) (v4 : Int32) (w0 : Int32) (hrec29 : ∀ (s : Int32 × Int32 × St) (r : Int32 × St), rec29 s = some r → G X (QM mkI X r) s.2.2 29 [(0, .ref (ad X 12)), (1, .int v1), (2, .int v2), (3, .int (s.1)), (4, .int (s.2.1))] []) (S : St) {r0 : Int32 × St} (h : f_X12_cut_b105 rec29 v1 v2 v3 v4 w0 S = some r0) : G X (QM mkI X r0) S 105 [(0, .ref (ad X 12)), (1, .int v1), (2, .int v2), (3, .int v3), (4, .int v4)] [.int w0] := by
  unfold f_X12_cut_b105 at h
  refine g_istore (pc := 105) C [(5, .int w0), (0, .ref (ad X 12)), (1, .int v1), (2, .int v2), (3, .int v3), (4, .int v4)] dX12_cut_105 (Nat.le_of_ble_eq_true rfl) rfl ?_
  refine g_aload_n (pc := 107) C dX12_cut_107 rfl 1 rfl ?_
  refine g_get (pc := 108) C 12 (w_12 _ _) rfl 29 (Nat.le_of_ble_eq_true rfl) in_X12_X12_cut k66_X12_cut rfl dX12_cut_108 ?_
  refine g_bipush (pc := 111) (v := 6) C dX12_cut_111 (by decide) ?_
  refine g_iload (pc := 113) C dX12_cut_113 5 rfl ?_
  refine g_imul (pc := 115) C dX12_cut_115 ?_
  refine g_iconst (pc := 116) (v := 0) C dX12_cut_116 (by decide) ?_
  refine g_iadd (pc := 117) C dX12_cut_117 ?_
  refine g_iald (pc := 118) C 65 (w_65 _ _) h dX12_cut_118 (fun h => ?_)
  refine g_leti h (fun x3 h => ?_)
  refine g_istore (pc := 119) C [(6, .int x3), (5, .int w0), (0, .ref (ad X 12)), (1, .int v1), (2, .int v2), (3, .int v3), (4, .int v4)] dX12_cut_119 (Nat.le_of_ble_eq_true rfl) rfl ?_
  refine g_iload (pc := 121) C dX12_cut_121 1 rfl ?_
  refine g_if_eq (pc := 123) (tgt := 143) C h dX12_cut_123 (by decide) (fun h => ?_) (fun h => ?_)
  · refine g_weak (lv1 := [(0, .ref (ad X 12)), (1, .int v1), (2, .int v2), (3, .int v3), (4, .int v4)]) [2, 3, 4, 5, 6] rfl ?_
    exact s_X12_cut_b143 C v1 v2 v3 v4 hrec29  S h
  · refine g_iload (pc := 126) C dX12_cut_126 0 rfl ?_
    refine g_iload_n (pc := 128) C dX12_cut_128 rfl 4 rfl ?_
    refine g_icmp_le (pc := 129) (tgt := 143) C h dX12_cut_129 (by decide) (fun h => ?_) (fun h => ?_)
    · refine g_weak (lv1 := [(0, .ref (ad X 12)), (1, .int v1), (2, .int v2), (3, .int v3), (4, .int v4)]) [2, 3, 4, 5, 6] rfl ?_
      exact s_X12_cut_b143 C v1 v2 v3 v4 hrec29  S h
    · refine g_iload (pc := 132) C dX12_cut_132 0 rfl ?_
      refine g_iload_n (pc := 134) C dX12_cut_134 rfl 5 rfl ?_
      refine g_icmp_ge (pc := 135) (tgt := 143) C h dX12_cut_135 (by decide) (fun h => ?_) (fun h => ?_)
      · refine g_weak (lv1 := [(0, .ref (ad X 12)), (1, .int v1), (2, .int v2), (3, .int v3), (4, .int v4)]) [2, 3, 4, 5, 6] rfl ?_
        exact s_X12_cut_b143 C v1 v2 v3 v4 hrec29  S h
      · refine g_iload (pc := 138) C dX12_cut_138 0 rfl ?_
        refine g_goto (pc := 140) (tgt := 144) C dX12_cut_140 (by decide) ?_
        refine g_weak (lv1 := [(0, .ref (ad X 12)), (1, .int v1), (2, .int v2), (4, .int v4)]) [2, 3, 4, 6] rfl ?_
        exact s_X12_cut_b144 C v1 v2 v4 x3 hrec29  S h
set_option maxRecDepth 100000 in
set_option maxHeartbeats 4000000 in
theorem s_X12_cut_b104 {X : MC} (C : Cx X cX12_cut RX12 wsX12_cut 7 rmX12_cut (some .int)) {rec29 : Int32 × Int32 × St → Option (Int32 × St)} (v1 : Int32) (v2 : Int32) (v3 : Int32) (v4 : Int32) (hrec29 : ∀ (s : Int32 × Int32 × St) (r : Int32 × St), rec29 s = some r → G X (QM mkI X r) s.2.2 29 [(0, .ref (ad X 12)), (1, .int v1), (2, .int v2), (3, .int (s.1)), (4, .int (s.2.1))] []) (S : St) {r0 : Int32 × St} (h : f_X12_cut_b104 rec29 v1 v2 v3 v4 S = some r0) : G X (QM mkI X r0) S 104 [(0, .ref (ad X 12)), (1, .int v1), (2, .int v2), (3, .int v3), (4, .int v4)] [] := by
  unfold f_X12_cut_b104 at h
  refine g_iconst (pc := 104) (v := 0) C dX12_cut_104 (by decide) ?_
  refine g_weak (lv1 := [(0, .ref (ad X 12)), (1, .int v1), (2, .int v2), (3, .int v3), (4, .int v4)]) [0, 1, 2, 3, 4] rfl ?_
  exact s_X12_cut_b105 C v1 v2 v3 v4 0 hrec29  S h
set_option maxRecDepth 100000 in
set_option maxHeartbeats 4000000 in
theorem s_X12_cut_b29 {X : MC} (C : Cx X cX12_cut RX12 wsX12_cut 7 rmX12_cut (some .int)) {rec29 : Int32 × Int32 × St → Option (Int32 × St)} (v1 : Int32) (v2 : Int32) (v3 : Int32) (v4 : Int32) (hrec29 : ∀ (s : Int32 × Int32 × St) (r : Int32 × St), rec29 s = some r → G X (QM mkI X r) s.2.2 29 [(0, .ref (ad X 12)), (1, .int v1), (2, .int v2), (3, .int (s.1)), (4, .int (s.2.1))] []) (S : St) {r0 : Int32 × St} (h : f_X12_cut_b29 rec29 v1 v2 v3 v4 S = some r0) : G X (QM mkI X r0) S 29 [(0, .ref (ad X 12)), (1, .int v1), (2, .int v2), (3, .int v3), (4, .int v4)] [] := by
  unfold f_X12_cut_b29 at h
  refine g_iload (pc := 29) C dX12_cut_29 4 rfl ?_
  refine g_aload_n (pc := 31) C dX12_cut_31 rfl 0 rfl ?_
  refine g_get (pc := 32) C 12 (w_12 _ _) rfl 28 (Nat.le_of_ble_eq_true rfl) in_X12_X12_cut k209_X12_cut rfl dX12_cut_32 ?_
  refine g_icmp_ge (pc := 35) (tgt := 151) C h dX12_cut_35 (by decide) (fun h => ?_) (fun h => ?_)
  · refine g_iload_n (pc := 151) C dX12_cut_151 rfl 3 rfl ?_
    refine g_iload_n (pc := 152) C dX12_cut_152 rfl 2 rfl ?_
    refine g_isub (pc := 153) C dX12_cut_153 ?_
    exact g_iret (pc := 154) C h dX12_cut_154
  · refine g_aload_n (pc := 38) C dX12_cut_38 rfl 0 rfl ?_
    refine g_get (pc := 39) C 12 (w_12 _ _) rfl 2 (Nat.le_of_ble_eq_true rfl) in_X12_X12_cut k7_X12_cut rfl dX12_cut_39 ?_
    refine g_aload_n (pc := 42) C dX12_cut_42 rfl 0 rfl ?_
    refine g_get (pc := 43) C 12 (w_12 _ _) rfl 29 (Nat.le_of_ble_eq_true rfl) in_X12_X12_cut k66_X12_cut rfl dX12_cut_43 ?_
    refine g_bipush (pc := 46) (v := 6) C dX12_cut_46 (by decide) ?_
    refine g_iload_n (pc := 48) C dX12_cut_48 rfl 1 rfl ?_
    refine g_imul (pc := 49) C dX12_cut_49 ?_
    refine g_iconst (pc := 50) (v := 4) C dX12_cut_50 (by decide) ?_
    refine g_iadd (pc := 51) C dX12_cut_51 ?_
    refine g_iald (pc := 52) C 65 (w_65 _ _) h dX12_cut_52 (fun h => ?_)
    refine g_iald (pc := 53) C 49 (w_49 _ _) h dX12_cut_53 (fun h => ?_)
    refine g_aload_n (pc := 54) C dX12_cut_54 rfl 0 rfl ?_
    refine g_get (pc := 55) C 12 (w_12 _ _) rfl 2 (Nat.le_of_ble_eq_true rfl) in_X12_X12_cut k7_X12_cut rfl dX12_cut_55 ?_
    refine g_aload_n (pc := 58) C dX12_cut_58 rfl 0 rfl ?_
    refine g_get (pc := 59) C 12 (w_12 _ _) rfl 29 (Nat.le_of_ble_eq_true rfl) in_X12_X12_cut k66_X12_cut rfl dX12_cut_59 ?_
    refine g_bipush (pc := 62) (v := 6) C dX12_cut_62 (by decide) ?_
    refine g_iload (pc := 64) C dX12_cut_64 4 rfl ?_
    refine g_imul (pc := 66) C dX12_cut_66 ?_
    refine g_iconst (pc := 67) (v := 4) C dX12_cut_67 (by decide) ?_
    refine g_iadd (pc := 68) C dX12_cut_68 ?_
    refine g_iald (pc := 69) C 65 (w_65 _ _) h dX12_cut_69 (fun h => ?_)
    refine g_iald (pc := 70) C 49 (w_49 _ _) h dX12_cut_70 (fun h => ?_)
    refine g_icmp_ne (pc := 71) (tgt := 104) C h dX12_cut_71 (by decide) (fun h => ?_) (fun h => ?_)
    · refine g_weak (lv1 := [(0, .ref (ad X 12)), (1, .int v1), (2, .int v2), (3, .int v3), (4, .int v4)]) [0, 1, 2, 3, 4] rfl ?_
      exact s_X12_cut_b104 C v1 v2 v3 v4 hrec29  S h
    · refine g_aload_n (pc := 74) C dX12_cut_74 rfl 0 rfl ?_
      refine g_get (pc := 75) C 12 (w_12 _ _) rfl 29 (Nat.le_of_ble_eq_true rfl) in_X12_X12_cut k66_X12_cut rfl dX12_cut_75 ?_
      refine g_bipush (pc := 78) (v := 6) C dX12_cut_78 (by decide) ?_
      refine g_iload_n (pc := 80) C dX12_cut_80 rfl 1 rfl ?_
      refine g_imul (pc := 81) C dX12_cut_81 ?_
      refine g_iconst (pc := 82) (v := 2) C dX12_cut_82 (by decide) ?_
      refine g_iadd (pc := 83) C dX12_cut_83 ?_
      refine g_iald (pc := 84) C 65 (w_65 _ _) h dX12_cut_84 (fun h => ?_)
      refine g_aload_n (pc := 85) C dX12_cut_85 rfl 0 rfl ?_
      refine g_get (pc := 86) C 12 (w_12 _ _) rfl 29 (Nat.le_of_ble_eq_true rfl) in_X12_X12_cut k66_X12_cut rfl dX12_cut_86 ?_
      refine g_bipush (pc := 89) (v := 6) C dX12_cut_89 (by decide) ?_
      refine g_iload (pc := 91) C dX12_cut_91 4 rfl ?_
      refine g_imul (pc := 93) C dX12_cut_93 ?_
      refine g_iconst (pc := 94) (v := 2) C dX12_cut_94 (by decide) ?_
      refine g_iadd (pc := 95) C dX12_cut_95 ?_
      refine g_iald (pc := 96) C 65 (w_65 _ _) h dX12_cut_96 (fun h => ?_)
      refine g_icmp_ne (pc := 97) (tgt := 104) C h dX12_cut_97 (by decide) (fun h => ?_) (fun h => ?_)
      · refine g_weak (lv1 := [(0, .ref (ad X 12)), (1, .int v1), (2, .int v2), (3, .int v3), (4, .int v4)]) [0, 1, 2, 3, 4] rfl ?_
        exact s_X12_cut_b104 C v1 v2 v3 v4 hrec29  S h
      · refine g_iconst (pc := 100) (v := 1) C dX12_cut_100 (by decide) ?_
        refine g_goto (pc := 101) (tgt := 105) C dX12_cut_101 (by decide) ?_
        refine g_weak (lv1 := [(0, .ref (ad X 12)), (1, .int v1), (2, .int v2), (3, .int v3), (4, .int v4)]) [0, 1, 2, 3, 4] rfl ?_
        exact s_X12_cut_b105 C v1 v2 v3 v4 1 hrec29  S h
set_option maxRecDepth 100000 in
set_option maxHeartbeats 4000000 in
theorem s_X12_cut_l29 {X : MC} (C : Cx X cX12_cut RX12 wsX12_cut 7 rmX12_cut (some .int)) (v1 : Int32) (v2 : Int32) : ∀ (n : Nat) (s : Int32 × Int32 × St) (r : Int32 × St), f_X12_cut_l29 v1 v2 n s = some r → G X (QM mkI X r) s.2.2 29 [(0, .ref (ad X 12)), (1, .int v1), (2, .int v2), (3, .int (s.1)), (4, .int (s.2.1))] [] :=
  loop_sound (fun rec29 hrec29 s r h => s_X12_cut_b29 C v1 v2 s.1 s.2.1 hrec29 s.2.2 h)
set_option maxRecDepth 100000 in
set_option maxHeartbeats 4000000 in
theorem s_X12_cut_b0 {X : MC} (C : Cx X cX12_cut RX12 wsX12_cut 7 rmX12_cut (some .int)) (a1 : Int32) (S : St) {r0 : Int32 × St} (h : f_X12_cut_b0 a1 S = some r0) : G X (QM mkI X r0) S 0 [(0, .ref (ad X 12)), (1, .int a1)] [] := by
  unfold f_X12_cut_b0 at h
  refine g_aload_n (pc := 0) C dX12_cut_0 rfl 0 rfl ?_
  refine g_get (pc := 1) C 12 (w_12 _ _) rfl 29 (Nat.le_of_ble_eq_true rfl) in_X12_X12_cut k66_X12_cut rfl dX12_cut_1 ?_
  refine g_bipush (pc := 4) (v := 6) C dX12_cut_4 (by decide) ?_
  refine g_iload_n (pc := 6) C dX12_cut_6 rfl 1 rfl ?_
  refine g_imul (pc := 7) C dX12_cut_7 ?_
  refine g_iconst (pc := 8) (v := 0) C dX12_cut_8 (by decide) ?_
  refine g_iadd (pc := 9) C dX12_cut_9 ?_
  refine g_iald (pc := 10) C 65 (w_65 _ _) h dX12_cut_10 (fun h => ?_)
  refine g_leti h (fun x1 h => ?_)
  refine g_istore_n (pc := 11) C [(2, .int x1), (0, .ref (ad X 12)), (1, .int a1)] dX12_cut_11 rfl (Nat.le_of_ble_eq_true rfl) rfl ?_
  refine g_iload_n (pc := 12) C dX12_cut_12 rfl 0 rfl ?_
  refine g_aload_n (pc := 13) C dX12_cut_13 rfl 1 rfl ?_
  refine g_get (pc := 14) C 12 (w_12 _ _) rfl 29 (Nat.le_of_ble_eq_true rfl) in_X12_X12_cut k66_X12_cut rfl dX12_cut_14 ?_
  refine g_bipush (pc := 17) (v := 6) C dX12_cut_17 (by decide) ?_
  refine g_iload_n (pc := 19) C dX12_cut_19 rfl 2 rfl ?_
  refine g_imul (pc := 20) C dX12_cut_20 ?_
  refine g_iconst (pc := 21) (v := 1) C dX12_cut_21 (by decide) ?_
  refine g_iadd (pc := 22) C dX12_cut_22 ?_
  refine g_iald (pc := 23) C 65 (w_65 _ _) h dX12_cut_23 (fun h => ?_)
  refine g_iadd (pc := 24) C dX12_cut_24 ?_
  refine g_leti h (fun x2 h => ?_)
  refine g_istore_n (pc := 25) C [(3, .int x2), (2, .int x1), (0, .ref (ad X 12)), (1, .int a1)] dX12_cut_25 rfl (Nat.le_of_ble_eq_true rfl) rfl ?_
  refine g_iconst (pc := 26) (v := 0) C dX12_cut_26 (by decide) ?_
  refine g_istore (pc := 27) C [(4, .int 0), (3, .int x2), (2, .int x1), (0, .ref (ad X 12)), (1, .int a1)] dX12_cut_27 (Nat.le_of_ble_eq_true rfl) rfl ?_
  refine g_weak (lv1 := [(0, .ref (ad X 12)), (1, .int a1), (2, .int x1), (3, .int x2), (4, .int 0)]) [3, 4, 2, 1, 0] rfl ?_
  exact s_X12_cut_l29 C a1 x1 _ (x2, 0, S) _ h
theorem c_X12_cut (l : Launch) (b : Bw) (a1 : Int32) (S : St) : Ct l b yX12_cut wsX12_cut rmX12_cut [.ref (bad b 12), .int a1] S mkI (f_X12_cut a1 S) := Ct.of (by decide +kernel) rfl (Nat.le_of_ble_eq_true rfl) (fun X C hl hb r h => by
  subst hl; subst hb
  exact s_X12_cut_b0 C a1 S h)
/-! StyleRowsModel.isAhead(II)Z -/
set_option maxRecDepth 100000 in
set_option maxHeartbeats 4000000 in
theorem s_X12_isAhead_b144 {X : MC} (C : Cx X cX12_isAhead RX12 wsX12_isAhead 4 rmX12_isAhead (some .boolean)) (w0 : Int32) (S : St) {r0 : Int32 × St} (h : f_X12_isAhead_b144 w0 S = some r0) : G X (QM mkI X r0) S 144 [] [.int w0] := by
  unfold f_X12_isAhead_b144 at h
  exact g_zret (pc := 144) C h dX12_isAhead_144
set_option maxRecDepth 100000 in
set_option maxHeartbeats 4000000 in
theorem s_X12_isAhead_b118 {X : MC} (C : Cx X cX12_isAhead RX12 wsX12_isAhead 4 rmX12_isAhead (some .boolean)) (v1 : Int32) (v2 : Int32) (v3 : Int32) (S : St) {r0 : Int32 × St} (h : f_X12_isAhead_b118 v1 v2 v3 S = some r0) : G X (QM mkI X r0) S 118 [(1, .int v1), (2, .int v2), (3, .int v3)] [] := by
  unfold f_X12_isAhead_b118 at h
  refine g_iload_n (pc := 118) C dX12_isAhead_118 rfl 2 rfl ?_
  refine g_if_ne (pc := 119) (tgt := 135) C h dX12_isAhead_119 (by decide) (fun h => ?_) (fun h => ?_)
  · refine g_iload_n (pc := 135) C dX12_isAhead_135 rfl 2 rfl ?_
    refine g_if_ge (pc := 136) (tgt := 143) C h dX12_isAhead_136 (by decide) (fun h => ?_) (fun h => ?_)
    · refine g_iconst (pc := 143) (v := 0) C dX12_isAhead_143 (by decide) ?_
      refine g_weak (lv1 := []) [] rfl ?_
      exact s_X12_isAhead_b144 C 0  S h
    · refine g_iconst (pc := 139) (v := 1) C dX12_isAhead_139 (by decide) ?_
      refine g_goto (pc := 140) (tgt := 144) C dX12_isAhead_140 (by decide) ?_
      refine g_weak (lv1 := []) [] rfl ?_
      exact s_X12_isAhead_b144 C 1  S h
  · refine g_iload_n (pc := 122) C dX12_isAhead_122 rfl 0 rfl ?_
    refine g_iload_n (pc := 123) C dX12_isAhead_123 rfl 1 rfl ?_
    refine g_icmp_ge (pc := 124) (tgt := 131) C h dX12_isAhead_124 (by decide) (fun h => ?_) (fun h => ?_)
    · refine g_iconst (pc := 131) (v := 0) C dX12_isAhead_131 (by decide) ?_
      refine g_goto (pc := 132) (tgt := 144) C dX12_isAhead_132 (by decide) ?_
      refine g_weak (lv1 := []) [] rfl ?_
      exact s_X12_isAhead_b144 C 0  S h
    · refine g_iconst (pc := 127) (v := 1) C dX12_isAhead_127 (by decide) ?_
      refine g_goto (pc := 128) (tgt := 144) C dX12_isAhead_128 (by decide) ?_
      refine g_weak (lv1 := []) [] rfl ?_
      exact s_X12_isAhead_b144 C 1  S h
set_option maxRecDepth 100000 in
set_option maxHeartbeats 4000000 in
theorem s_X12_isAhead_b90 {X : MC} (C : Cx X cX12_isAhead RX12 wsX12_isAhead 4 rmX12_isAhead (some .boolean)) (v1 : Int32) (v2 : Int32) (v3 : Int32) (S : St) {r0 : Int32 × St} (h : f_X12_isAhead_b90 v1 v2 v3 S = some r0) : G X (QM mkI X r0) S 90 [(0, .ref (ad X 12)), (1, .int v1), (2, .int v2), (3, .int v3)] [] := by
  unfold f_X12_isAhead_b90 at h
  refine g_iload_n (pc := 90) C dX12_isAhead_90 rfl 3 rfl ?_
  refine g_if_ne (pc := 91) (tgt := 118) C h dX12_isAhead_91 (by decide) (fun h => ?_) (fun h => ?_)
  · refine g_weak (lv1 := [(1, .int v1), (2, .int v2), (3, .int v3)]) [1, 2, 3] rfl ?_
    exact s_X12_isAhead_b118 C v1 v2 v3  S h
  · refine g_aload_n (pc := 94) C dX12_isAhead_94 rfl 0 rfl ?_
    refine g_get (pc := 95) C 12 (w_12 _ _) rfl 29 (Nat.le_of_ble_eq_true rfl) in_X12_X12_isAhead k66_X12_isAhead rfl dX12_isAhead_95 ?_
    refine g_bipush (pc := 98) (v := 6) C dX12_isAhead_98 (by decide) ?_
    refine g_iload_n (pc := 100) C dX12_isAhead_100 rfl 1 rfl ?_
    refine g_imul (pc := 101) C dX12_isAhead_101 ?_
    refine g_iconst (pc := 102) (v := 4) C dX12_isAhead_102 (by decide) ?_
    refine g_iadd (pc := 103) C dX12_isAhead_103 ?_
    refine g_iald (pc := 104) C 65 (w_65 _ _) h dX12_isAhead_104 (fun h => ?_)
    refine g_aload_n (pc := 105) C dX12_isAhead_105 rfl 0 rfl ?_
    refine g_get (pc := 106) C 12 (w_12 _ _) rfl 29 (Nat.le_of_ble_eq_true rfl) in_X12_X12_isAhead k66_X12_isAhead rfl dX12_isAhead_106 ?_
    refine g_bipush (pc := 109) (v := 6) C dX12_isAhead_109 (by decide) ?_
    refine g_iload_n (pc := 111) C dX12_isAhead_111 rfl 2 rfl ?_
    refine g_imul (pc := 112) C dX12_isAhead_112 ?_
    refine g_iconst (pc := 113) (v := 4) C dX12_isAhead_113 (by decide) ?_
    refine g_iadd (pc := 114) C dX12_isAhead_114 ?_
    refine g_iald (pc := 115) C 65 (w_65 _ _) h dX12_isAhead_115 (fun h => ?_)
    refine g_isub (pc := 116) C dX12_isAhead_116 ?_
    refine g_leti h (fun x2 h => ?_)
    refine g_istore_n (pc := 117) C [(3, .int x2), (0, .ref (ad X 12)), (1, .int v1), (2, .int v2)] dX12_isAhead_117 rfl (Nat.le_of_ble_eq_true rfl) rfl ?_
    refine g_weak (lv1 := [(1, .int v1), (2, .int v2), (3, .int x2)]) [2, 3, 0] rfl ?_
    exact s_X12_isAhead_b118 C v1 v2 x2  S h
set_option maxRecDepth 100000 in
set_option maxHeartbeats 4000000 in
theorem s_X12_isAhead_b62 {X : MC} (C : Cx X cX12_isAhead RX12 wsX12_isAhead 4 rmX12_isAhead (some .boolean)) (v1 : Int32) (v2 : Int32) (v3 : Int32) (S : St) {r0 : Int32 × St} (h : f_X12_isAhead_b62 v1 v2 v3 S = some r0) : G X (QM mkI X r0) S 62 [(0, .ref (ad X 12)), (1, .int v1), (2, .int v2), (3, .int v3)] [] := by
  unfold f_X12_isAhead_b62 at h
  refine g_iload_n (pc := 62) C dX12_isAhead_62 rfl 3 rfl ?_
  refine g_if_ne (pc := 63) (tgt := 90) C h dX12_isAhead_63 (by decide) (fun h => ?_) (fun h => ?_)
  · refine g_weak (lv1 := [(0, .ref (ad X 12)), (1, .int v1), (2, .int v2), (3, .int v3)]) [0, 1, 2, 3] rfl ?_
    exact s_X12_isAhead_b90 C v1 v2 v3  S h
  · refine g_aload_n (pc := 66) C dX12_isAhead_66 rfl 0 rfl ?_
    refine g_get (pc := 67) C 12 (w_12 _ _) rfl 29 (Nat.le_of_ble_eq_true rfl) in_X12_X12_isAhead k66_X12_isAhead rfl dX12_isAhead_67 ?_
    refine g_bipush (pc := 70) (v := 6) C dX12_isAhead_70 (by decide) ?_
    refine g_iload_n (pc := 72) C dX12_isAhead_72 rfl 1 rfl ?_
    refine g_imul (pc := 73) C dX12_isAhead_73 ?_
    refine g_iconst (pc := 74) (v := 2) C dX12_isAhead_74 (by decide) ?_
    refine g_iadd (pc := 75) C dX12_isAhead_75 ?_
    refine g_iald (pc := 76) C 65 (w_65 _ _) h dX12_isAhead_76 (fun h => ?_)
    refine g_aload_n (pc := 77) C dX12_isAhead_77 rfl 0 rfl ?_
    refine g_get (pc := 78) C 12 (w_12 _ _) rfl 29 (Nat.le_of_ble_eq_true rfl) in_X12_X12_isAhead k66_X12_isAhead rfl dX12_isAhead_78 ?_
    refine g_bipush (pc := 81) (v := 6) C dX12_isAhead_81 (by decide) ?_
    refine g_iload_n (pc := 83) C dX12_isAhead_83 rfl 2 rfl ?_
    refine g_imul (pc := 84) C dX12_isAhead_84 ?_
    refine g_iconst (pc := 85) (v := 2) C dX12_isAhead_85 (by decide) ?_
    refine g_iadd (pc := 86) C dX12_isAhead_86 ?_
    refine g_iald (pc := 87) C 65 (w_65 _ _) h dX12_isAhead_87 (fun h => ?_)
    refine g_isub (pc := 88) C dX12_isAhead_88 ?_
    refine g_leti h (fun x3 h => ?_)
    refine g_istore_n (pc := 89) C [(3, .int x3), (0, .ref (ad X 12)), (1, .int v1), (2, .int v2)] dX12_isAhead_89 rfl (Nat.le_of_ble_eq_true rfl) rfl ?_
    refine g_weak (lv1 := [(0, .ref (ad X 12)), (1, .int v1), (2, .int v2), (3, .int x3)]) [1, 2, 3, 0] rfl ?_
    exact s_X12_isAhead_b90 C v1 v2 x3  S h
set_option maxRecDepth 100000 in
set_option maxHeartbeats 4000000 in
theorem s_X12_isAhead_b0 {X : MC} (C : Cx X cX12_isAhead RX12 wsX12_isAhead 4 rmX12_isAhead (some .boolean)) (a1 : Int32) (a2 : Int32) (S : St) {r0 : Int32 × St} (h : f_X12_isAhead_b0 a1 a2 S = some r0) : G X (QM mkI X r0) S 0 [(0, .ref (ad X 12)), (1, .int a1), (2, .int a2)] [] := by
  unfold f_X12_isAhead_b0 at h
  refine g_aload_n (pc := 0) C dX12_isAhead_0 rfl 0 rfl ?_
  refine g_get (pc := 1) C 12 (w_12 _ _) rfl 29 (Nat.le_of_ble_eq_true rfl) in_X12_X12_isAhead k66_X12_isAhead rfl dX12_isAhead_1 ?_
  refine g_bipush (pc := 4) (v := 6) C dX12_isAhead_4 (by decide) ?_
  refine g_iload_n (pc := 6) C dX12_isAhead_6 rfl 1 rfl ?_
  refine g_imul (pc := 7) C dX12_isAhead_7 ?_
  refine g_iconst (pc := 8) (v := 0) C dX12_isAhead_8 (by decide) ?_
  refine g_iadd (pc := 9) C dX12_isAhead_9 ?_
  refine g_iald (pc := 10) C 65 (w_65 _ _) h dX12_isAhead_10 (fun h => ?_)
  refine g_aload_n (pc := 11) C dX12_isAhead_11 rfl 0 rfl ?_
  refine g_get (pc := 12) C 12 (w_12 _ _) rfl 29 (Nat.le_of_ble_eq_true rfl) in_X12_X12_isAhead k66_X12_isAhead rfl dX12_isAhead_12 ?_
  refine g_bipush (pc := 15) (v := 6) C dX12_isAhead_15 (by decide) ?_
  refine g_iload_n (pc := 17) C dX12_isAhead_17 rfl 2 rfl ?_
  refine g_imul (pc := 18) C dX12_isAhead_18 ?_
  refine g_iconst (pc := 19) (v := 0) C dX12_isAhead_19 (by decide) ?_
  refine g_iadd (pc := 20) C dX12_isAhead_20 ?_
  refine g_iald (pc := 21) C 65 (w_65 _ _) h dX12_isAhead_21 (fun h => ?_)
  refine g_isub (pc := 22) C dX12_isAhead_22 ?_
  refine g_leti h (fun x1 h => ?_)
  refine g_istore_n (pc := 23) C [(3, .int x1), (0, .ref (ad X 12)), (1, .int a1), (2, .int a2)] dX12_isAhead_23 rfl (Nat.le_of_ble_eq_true rfl) rfl ?_
  refine g_iload_n (pc := 24) C dX12_isAhead_24 rfl 0 rfl ?_
  refine g_if_ne (pc := 25) (tgt := 62) C h dX12_isAhead_25 (by decide) (fun h => ?_) (fun h => ?_)
  · refine g_weak (lv1 := [(0, .ref (ad X 12)), (1, .int a1), (2, .int a2), (3, .int x1)]) [1, 2, 3, 0] rfl ?_
    exact s_X12_isAhead_b62 C a1 a2 x1  S h
  · refine g_aload_n (pc := 28) C dX12_isAhead_28 rfl 1 rfl ?_
    refine g_get (pc := 29) C 12 (w_12 _ _) rfl 2 (Nat.le_of_ble_eq_true rfl) in_X12_X12_isAhead k7_X12_isAhead rfl dX12_isAhead_29 ?_
    refine g_aload_n (pc := 32) C dX12_isAhead_32 rfl 1 rfl ?_
    refine g_get (pc := 33) C 12 (w_12 _ _) rfl 29 (Nat.le_of_ble_eq_true rfl) in_X12_X12_isAhead k66_X12_isAhead rfl dX12_isAhead_33 ?_
    refine g_bipush (pc := 36) (v := 6) C dX12_isAhead_36 (by decide) ?_
    refine g_iload_n (pc := 38) C dX12_isAhead_38 rfl 2 rfl ?_
    refine g_imul (pc := 39) C dX12_isAhead_39 ?_
    refine g_iconst (pc := 40) (v := 4) C dX12_isAhead_40 (by decide) ?_
    refine g_iadd (pc := 41) C dX12_isAhead_41 ?_
    refine g_iald (pc := 42) C 65 (w_65 _ _) h dX12_isAhead_42 (fun h => ?_)
    refine g_iald (pc := 43) C 49 (w_49 _ _) h dX12_isAhead_43 (fun h => ?_)
    refine g_aload_n (pc := 44) C dX12_isAhead_44 rfl 1 rfl ?_
    refine g_get (pc := 45) C 12 (w_12 _ _) rfl 2 (Nat.le_of_ble_eq_true rfl) in_X12_X12_isAhead k7_X12_isAhead rfl dX12_isAhead_45 ?_
    refine g_aload_n (pc := 48) C dX12_isAhead_48 rfl 1 rfl ?_
    refine g_get (pc := 49) C 12 (w_12 _ _) rfl 29 (Nat.le_of_ble_eq_true rfl) in_X12_X12_isAhead k66_X12_isAhead rfl dX12_isAhead_49 ?_
    refine g_bipush (pc := 52) (v := 6) C dX12_isAhead_52 (by decide) ?_
    refine g_iload_n (pc := 54) C dX12_isAhead_54 rfl 3 rfl ?_
    refine g_imul (pc := 55) C dX12_isAhead_55 ?_
    refine g_iconst (pc := 56) (v := 4) C dX12_isAhead_56 (by decide) ?_
    refine g_iadd (pc := 57) C dX12_isAhead_57 ?_
    refine g_iald (pc := 58) C 65 (w_65 _ _) h dX12_isAhead_58 (fun h => ?_)
    refine g_iald (pc := 59) C 49 (w_49 _ _) h dX12_isAhead_59 (fun h => ?_)
    refine g_isub (pc := 60) C dX12_isAhead_60 ?_
    refine g_leti h (fun x4 h => ?_)
    refine g_istore_n (pc := 61) C [(3, .int x4), (0, .ref (ad X 12)), (1, .int a1), (2, .int a2)] dX12_isAhead_61 rfl (Nat.le_of_ble_eq_true rfl) rfl ?_
    refine g_weak (lv1 := [(0, .ref (ad X 12)), (1, .int a1), (2, .int a2), (3, .int x4)]) [1, 2, 3, 0] rfl ?_
    exact s_X12_isAhead_b62 C a1 a2 x4  S h
theorem c_X12_isAhead (l : Launch) (b : Bw) (a1 : Int32) (a2 : Int32) (S : St) : Ct l b yX12_isAhead wsX12_isAhead rmX12_isAhead [.ref (bad b 12), .int a1, .int a2] S mkI (f_X12_isAhead a1 a2 S) := Ct.of (by decide +kernel) rfl (Nat.le_of_ble_eq_true rfl) (fun X C hl hb r h => by
  subst hl; subst hb
  exact s_X12_isAhead_b0 C a1 a2 S h)
/-! StyleRowsModel.onOf(I)I -/
set_option maxRecDepth 100000 in
set_option maxHeartbeats 4000000 in
theorem s_X12_onOf_b92 {X : MC} (C : Cx X cX12_onOf RX12 wsX12_onOf 6 rmX12_onOf (some .int)) (w0 : Int32) (S : St) {r0 : Int32 × St} (h : f_X12_onOf_b92 w0 S = some r0) : G X (QM mkI X r0) S 92 [] [.int w0] := by
  unfold f_X12_onOf_b92 at h
  exact g_iret (pc := 92) C h dX12_onOf_92
set_option maxRecDepth 100000 in
set_option maxHeartbeats 4000000 in
theorem s_X12_onOf_b0 {X : MC} (C : Cx X cX12_onOf RX12 wsX12_onOf 6 rmX12_onOf (some .int)) (a1 : Int32) (S : St) {r0 : Int32 × St} (h : f_X12_onOf_b0 a1 S = some r0) : G X (QM mkI X r0) S 0 [(0, .ref (ad X 12)), (1, .int a1)] [] := by
  unfold f_X12_onOf_b0 at h
  refine g_aload_n (pc := 0) C dX12_onOf_0 rfl 0 rfl ?_
  refine g_aload_n (pc := 1) C dX12_onOf_1 rfl 0 rfl ?_
  refine g_get (pc := 2) C 12 (w_12 _ _) rfl 2 (Nat.le_of_ble_eq_true rfl) in_X12_X12_onOf k7_X12_onOf rfl dX12_onOf_2 ?_
  refine g_iload_n (pc := 5) C dX12_onOf_5 rfl 1 rfl ?_
  refine g_iald (pc := 6) C 49 (w_49 _ _) h dX12_onOf_6 (fun h => ?_)
  refine g_bipush (pc := 7) (v := 12) C dX12_onOf_7 (by decide) ?_
  refine g_callV (pc := 9) C 12 (c_X12_number (Xl X) (Xb X) (rd S 49 a1) 12 S) gX12_onOf_X12_number rfl rfl rfl hd_X12_number ⟨Nat.le_of_ble_eq_true rfl, Nat.le_of_ble_eq_true rfl⟩ (w_12 _ _) rfl rfl rfl (Nat.le_of_ble_eq_true rfl) dX12_onOf_9 h (fun r2 S1 h => ?_)
  change G X _ S1 12 [(0, .ref (ad X 12)), (1, .int a1)] [.int r2]
  refine g_istore_n (pc := 12) C [(2, .int r2), (0, .ref (ad X 12)), (1, .int a1)] dX12_onOf_12 rfl (Nat.le_of_ble_eq_true rfl) rfl ?_
  refine g_iload_n (pc := 13) C dX12_onOf_13 rfl 0 rfl ?_
  refine g_if_ne (pc := 14) (tgt := 24) C h dX12_onOf_14 (by decide) (fun h => ?_) (fun h => ?_)
  · refine g_aload_n (pc := 24) C dX12_onOf_24 rfl 1 rfl ?_
    refine g_get (pc := 25) C 12 (w_12 _ _) rfl 0 (Nat.le_of_ble_eq_true rfl) in_X12_X12_onOf k72_X12_onOf rfl dX12_onOf_25 ?_
    refine g_iload_n (pc := 28) C dX12_onOf_28 rfl 2 rfl ?_
    refine g_i2l (pc := 29) C dX12_onOf_29 ?_
    refine g_lconst (pc := 30) (v := 1) C dX12_onOf_30 (by decide) ?_
    refine g_ladd (pc := 31) C dX12_onOf_31 ?_
    refine g_ldc2 (pc := 32) (v := (-7046029254386353131)) C k224_X12_onOf dX12_onOf_32 ?_
    refine g_lmul (pc := 35) C dX12_onOf_35 ?_
    refine g_ladd (pc := 36) C dX12_onOf_36 ?_
    refine g_letl h (fun y3 h => ?_)
    refine g_lstore_n (pc := 37) C [(3, .long y3), (2, .int r2), (0, .ref (ad X 12)), (1, .int a1)] dX12_onOf_37 rfl (Nat.le_of_ble_eq_true rfl) rfl ?_
    refine g_lload_n (pc := 38) C dX12_onOf_38 rfl 0 rfl ?_
    refine g_lload_n (pc := 39) C dX12_onOf_39 rfl 0 rfl ?_
    refine g_bipush (pc := 40) (v := 30) C dX12_onOf_40 (by decide) ?_
    refine g_lushr (pc := 42) C dX12_onOf_42 ?_
    refine g_lxor (pc := 43) C dX12_onOf_43 ?_
    refine g_ldc2 (pc := 44) (v := (-4658895280553007687)) C k226_X12_onOf dX12_onOf_44 ?_
    refine g_lmul (pc := 47) C dX12_onOf_47 ?_
    refine g_letl h (fun y4 h => ?_)
    refine g_lstore_n (pc := 48) C [(3, .long y4), (2, .int r2), (0, .ref (ad X 12)), (1, .int a1)] dX12_onOf_48 rfl (Nat.le_of_ble_eq_true rfl) rfl ?_
    refine g_lload_n (pc := 49) C dX12_onOf_49 rfl 0 rfl ?_
    refine g_lload_n (pc := 50) C dX12_onOf_50 rfl 0 rfl ?_
    refine g_bipush (pc := 51) (v := 27) C dX12_onOf_51 (by decide) ?_
    refine g_lushr (pc := 53) C dX12_onOf_53 ?_
    refine g_lxor (pc := 54) C dX12_onOf_54 ?_
    refine g_letl h (fun y5 h => ?_)
    refine g_lstore_n (pc := 55) C [(3, .long y5), (2, .int r2), (0, .ref (ad X 12)), (1, .int a1)] dX12_onOf_55 rfl (Nat.le_of_ble_eq_true rfl) rfl ?_
    refine g_aload_n (pc := 56) C dX12_onOf_56 rfl 2 rfl ?_
    refine g_get (pc := 57) C 12 (w_12 _ _) rfl 3 (Nat.le_of_ble_eq_true rfl) in_X12_X12_onOf k13_X12_onOf rfl dX12_onOf_57 ?_
    refine g_iload_n (pc := 60) C dX12_onOf_60 rfl 3 rfl ?_
    refine g_iald (pc := 61) C 50 (w_50 _ _) h dX12_onOf_61 (fun h => ?_)
    refine g_lload_n (pc := 62) C dX12_onOf_62 rfl 0 rfl ?_
    refine g_bipush (pc := 63) (v := 33) C dX12_onOf_63 (by decide) ?_
    refine g_lushr (pc := 65) C dX12_onOf_65 ?_
    refine g_ldc2 (pc := 66) (v := 2) C k228_X12_onOf dX12_onOf_66 ?_
    refine g_iload_n (pc := 69) C dX12_onOf_69 rfl 1 rfl ?_
    refine g_i2l (pc := 70) C dX12_onOf_70 ?_
    refine g_lmul (pc := 71) C dX12_onOf_71 ?_
    refine g_lconst (pc := 72) (v := 1) C dX12_onOf_72 (by decide) ?_
    refine g_ladd (pc := 73) C dX12_onOf_73 ?_
    refine g_lrem (pc := 74) C h dX12_onOf_74 (fun h => ?_)
    refine g_l2i (pc := 75) C dX12_onOf_75 ?_
    refine g_iadd (pc := 76) C dX12_onOf_76 ?_
    refine g_iload_n (pc := 77) C dX12_onOf_77 rfl 1 rfl ?_
    refine g_isub (pc := 78) C dX12_onOf_78 ?_
    refine g_leti h (fun x6 h => ?_)
    refine g_istore (pc := 79) C [(5, .int x6), (3, .long y5), (2, .int r2), (0, .ref (ad X 12)), (1, .int a1)] dX12_onOf_79 (Nat.le_of_ble_eq_true rfl) rfl ?_
    refine g_iload (pc := 81) C dX12_onOf_81 0 rfl ?_
    refine g_if_ge (pc := 83) (tgt := 90) C h dX12_onOf_83 (by decide) (fun h => ?_) (fun h => ?_)
    · refine g_iload (pc := 90) C dX12_onOf_90 0 rfl ?_
      refine g_weak (lv1 := []) [] rfl ?_
      exact s_X12_onOf_b92 C x6  S1 h
    · refine g_iconst (pc := 86) (v := 0) C dX12_onOf_86 (by decide) ?_
      refine g_goto (pc := 87) (tgt := 92) C dX12_onOf_87 (by decide) ?_
      refine g_weak (lv1 := []) [] rfl ?_
      exact s_X12_onOf_b92 C 0  S1 h
  · refine g_aload_n (pc := 17) C dX12_onOf_17 rfl 1 rfl ?_
    refine g_get (pc := 18) C 12 (w_12 _ _) rfl 3 (Nat.le_of_ble_eq_true rfl) in_X12_X12_onOf k13_X12_onOf rfl dX12_onOf_18 ?_
    refine g_iload_n (pc := 21) C dX12_onOf_21 rfl 2 rfl ?_
    refine g_iald (pc := 22) C 50 (w_50 _ _) h dX12_onOf_22 (fun h => ?_)
    exact g_iret (pc := 23) C h dX12_onOf_23
theorem c_X12_onOf (l : Launch) (b : Bw) (a1 : Int32) (S : St) : Ct l b yX12_onOf wsX12_onOf rmX12_onOf [.ref (bad b 12), .int a1] S mkI (f_X12_onOf a1 S) := Ct.of (by decide +kernel) rfl (Nat.le_of_ble_eq_true rfl) (fun X C hl hb r h => by
  subst hl; subst hb
  exact s_X12_onOf_b0 C a1 S h)
/-! StyleRowsModel.has(II)Z -/
set_option maxRecDepth 100000 in
set_option maxHeartbeats 4000000 in
theorem s_X12_has_b16 {X : MC} (C : Cx X cX12_has RX12 wsX12_has 3 rmX12_has (some .boolean)) (w0 : Int32) (S : St) {r0 : Int32 × St} (h : f_X12_has_b16 w0 S = some r0) : G X (QM mkI X r0) S 16 [] [.int w0] := by
  unfold f_X12_has_b16 at h
  exact g_zret (pc := 16) C h dX12_has_16
set_option maxRecDepth 100000 in
set_option maxHeartbeats 4000000 in
theorem s_X12_has_b0 {X : MC} (C : Cx X cX12_has RX12 wsX12_has 3 rmX12_has (some .boolean)) (a1 : Int32) (a2 : Int32) (S : St) {r0 : Int32 × St} (h : f_X12_has_b0 a1 a2 S = some r0) : G X (QM mkI X r0) S 0 [(0, .ref (ad X 12)), (1, .int a1), (2, .int a2)] [] := by
  unfold f_X12_has_b0 at h
  refine g_aload_n (pc := 0) C dX12_has_0 rfl 0 rfl ?_
  refine g_get (pc := 1) C 12 (w_12 _ _) rfl 6 (Nat.le_of_ble_eq_true rfl) in_X12_X12_has k22_X12_has rfl dX12_has_1 ?_
  refine g_iload_n (pc := 4) C dX12_has_4 rfl 1 rfl ?_
  refine g_iald (pc := 5) C 53 (w_53 _ _) h dX12_has_5 (fun h => ?_)
  refine g_iload_n (pc := 6) C dX12_has_6 rfl 2 rfl ?_
  refine g_iand (pc := 7) C dX12_has_7 ?_
  refine g_if_eq (pc := 8) (tgt := 15) C h dX12_has_8 (by decide) (fun h => ?_) (fun h => ?_)
  · refine g_iconst (pc := 15) (v := 0) C dX12_has_15 (by decide) ?_
    refine g_weak (lv1 := []) [] rfl ?_
    exact s_X12_has_b16 C 0  S h
  · refine g_iconst (pc := 11) (v := 1) C dX12_has_11 (by decide) ?_
    refine g_goto (pc := 12) (tgt := 16) C dX12_has_12 (by decide) ?_
    refine g_weak (lv1 := []) [] rfl ?_
    exact s_X12_has_b16 C 1  S h
theorem c_X12_has (l : Launch) (b : Bw) (a1 : Int32) (a2 : Int32) (S : St) : Ct l b yX12_has wsX12_has rmX12_has [.ref (bad b 12), .int a1, .int a2] S mkI (f_X12_has a1 a2 S) := Ct.of (by decide +kernel) rfl (Nat.le_of_ble_eq_true rfl) (fun X C hl hb r h => by
  subst hl; subst hb
  exact s_X12_has_b0 C a1 a2 S h)
/-! StyleRowsModel.lesser(II)I -/
set_option maxRecDepth 100000 in
set_option maxHeartbeats 4000000 in
theorem s_X12_lesser_b10 {X : MC} (C : Cx X cX12_lesser RX12 wsX12_lesser 2 rmX12_lesser (some .int)) (w0 : Int32) (S : St) {r0 : Int32 × St} (h : f_X12_lesser_b10 w0 S = some r0) : G X (QM mkI X r0) S 10 [] [.int w0] := by
  unfold f_X12_lesser_b10 at h
  exact g_iret (pc := 10) C h dX12_lesser_10
set_option maxRecDepth 100000 in
set_option maxHeartbeats 4000000 in
theorem s_X12_lesser_b0 {X : MC} (C : Cx X cX12_lesser RX12 wsX12_lesser 2 rmX12_lesser (some .int)) (a1 : Int32) (a2 : Int32) (S : St) {r0 : Int32 × St} (h : f_X12_lesser_b0 a1 a2 S = some r0) : G X (QM mkI X r0) S 0 [(0, .int a1), (1, .int a2)] [] := by
  unfold f_X12_lesser_b0 at h
  refine g_iload_n (pc := 0) C dX12_lesser_0 rfl 0 rfl ?_
  refine g_iload_n (pc := 1) C dX12_lesser_1 rfl 1 rfl ?_
  refine g_icmp_ge (pc := 2) (tgt := 9) C h dX12_lesser_2 (by decide) (fun h => ?_) (fun h => ?_)
  · refine g_iload_n (pc := 9) C dX12_lesser_9 rfl 1 rfl ?_
    refine g_weak (lv1 := []) [] rfl ?_
    exact s_X12_lesser_b10 C a2  S h
  · refine g_iload_n (pc := 5) C dX12_lesser_5 rfl 0 rfl ?_
    refine g_goto (pc := 6) (tgt := 10) C dX12_lesser_6 (by decide) ?_
    refine g_weak (lv1 := []) [] rfl ?_
    exact s_X12_lesser_b10 C a1  S h
theorem c_X12_lesser (l : Launch) (b : Bw) (a1 : Int32) (a2 : Int32) (S : St) : Ct l b yX12_lesser wsX12_lesser rmX12_lesser [.int a1, .int a2] S mkI (f_X12_lesser a1 a2 S) := Ct.of (by decide +kernel) rfl (Nat.le_of_ble_eq_true rfl) (fun X C hl hb r h => by
  subst hl; subst hb
  exact s_X12_lesser_b0 C a1 a2 S h)
/-! StyleRowsModel.longOf(I)I -/
set_option maxRecDepth 100000 in
set_option maxHeartbeats 4000000 in
theorem s_X12_longOf_b84 {X : MC} (C : Cx X cX12_longOf RX12 wsX12_longOf 5 rmX12_longOf (some .int)) (w0 : Int32) (S : St) {r0 : Int32 × St} (h : f_X12_longOf_b84 w0 S = some r0) : G X (QM mkI X r0) S 84 [] [.int w0] := by
  unfold f_X12_longOf_b84 at h
  exact g_iret (pc := 84) C h dX12_longOf_84
set_option maxRecDepth 100000 in
set_option maxHeartbeats 4000000 in
theorem s_X12_longOf_b34 {X : MC} (C : Cx X cX12_longOf RX12 wsX12_longOf 5 rmX12_longOf (some .int)) (v1 : Int32) (w1 : Int32) (w2 : Int32) (S : St) {r0 : Int32 × St} (h : f_X12_longOf_b34 v1 w1 w2 S = some r0) : G X (QM mkI X r0) S 34 [(0, .ref (ad X 12)), (1, .int v1)] [.int w2, .int w1, .ref (ad X 12)] := by
  unfold f_X12_longOf_b34 at h
  refine g_callV (pc := 34) C 12 (c_X12_number (Xl X) (Xb X) w1 w2 S) gX12_longOf_X12_number rfl rfl rfl hd_X12_number ⟨Nat.le_of_ble_eq_true rfl, Nat.le_of_ble_eq_true rfl⟩ (w_12 _ _) rfl rfl rfl (Nat.le_of_ble_eq_true rfl) dX12_longOf_34 h (fun r6 S5 h => ?_)
  change G X _ S5 37 [(0, .ref (ad X 12)), (1, .int v1)] [.int r6]
  refine g_istore_n (pc := 37) C [(2, .int r6), (0, .ref (ad X 12)), (1, .int v1)] dX12_longOf_37 rfl (Nat.le_of_ble_eq_true rfl) rfl ?_
  refine g_aload_n (pc := 38) C dX12_longOf_38 rfl 1 rfl ?_
  refine g_get (pc := 39) C 12 (w_12 _ _) rfl 4 (Nat.le_of_ble_eq_true rfl) in_X12_X12_longOf k16_X12_longOf rfl dX12_longOf_39 ?_
  refine g_iload_n (pc := 42) C dX12_longOf_42 rfl 2 rfl ?_
  refine g_iald (pc := 43) C 51 (w_51 _ _) h dX12_longOf_43 (fun h => ?_)
  refine g_iload_n (pc := 44) C dX12_longOf_44 rfl 0 rfl ?_
  refine g_imul (pc := 45) C dX12_longOf_45 ?_
  refine g_bipush (pc := 46) (v := 100) C dX12_longOf_46 (by decide) ?_
  refine g_idiv (pc := 48) C h dX12_longOf_48 (fun h => ?_)
  refine g_leti h (fun x7 h => ?_)
  refine g_istore_n (pc := 49) C [(3, .int x7), (2, .int r6), (0, .ref (ad X 12)), (1, .int v1)] dX12_longOf_49 rfl (Nat.le_of_ble_eq_true rfl) rfl ?_
  refine g_aload_n (pc := 50) C dX12_longOf_50 rfl 2 rfl ?_
  refine g_aload_n (pc := 51) C dX12_longOf_51 rfl 2 rfl ?_
  refine g_get (pc := 52) C 12 (w_12 _ _) rfl 2 (Nat.le_of_ble_eq_true rfl) in_X12_X12_longOf k7_X12_longOf rfl dX12_longOf_52 ?_
  refine g_iload_n (pc := 55) C dX12_longOf_55 rfl 3 rfl ?_
  refine g_iald (pc := 56) C 49 (w_49 _ _) h dX12_longOf_56 (fun h => ?_)
  refine g_iconst (pc := 57) (v := 3) C dX12_longOf_57 (by decide) ?_
  refine g_callV (pc := 58) C 12 (c_X12_number (Xl X) (Xb X) (rd S5 49 v1) 3 S5) gX12_longOf_X12_number rfl rfl rfl hd_X12_number ⟨Nat.le_of_ble_eq_true rfl, Nat.le_of_ble_eq_true rfl⟩ (w_12 _ _) rfl rfl rfl (Nat.le_of_ble_eq_true rfl) dX12_longOf_58 h (fun r9 S8 h => ?_)
  change G X _ S8 61 [(3, .int x7), (2, .int r6), (0, .ref (ad X 12)), (1, .int v1)] [.int r9]
  refine g_aload_n (pc := 61) C dX12_longOf_61 rfl 2 rfl ?_
  refine g_get (pc := 62) C 12 (w_12 _ _) rfl 4 (Nat.le_of_ble_eq_true rfl) in_X12_X12_longOf k16_X12_longOf rfl dX12_longOf_62 ?_
  refine g_iload_n (pc := 65) C dX12_longOf_65 rfl 3 rfl ?_
  refine g_iald (pc := 66) C 51 (w_51 _ _) h dX12_longOf_66 (fun h => ?_)
  refine g_callS (pc := 67) C (c_X12_lesser (Xl X) (Xb X) r9 (rd S8 51 v1) S8) gX12_longOf_X12_lesser rfl rfl rfl hd_X12_lesser ⟨Nat.le_of_ble_eq_true rfl, Nat.le_of_ble_eq_true rfl⟩ rfl rfl (Nat.le_of_ble_eq_true rfl) dX12_longOf_67 h (fun r11 S10 h => ?_)
  change G X _ S10 70 [(3, .int x7), (2, .int r6), (0, .ref (ad X 12)), (1, .int v1)] [.int r11]
  refine g_istore (pc := 70) C [(4, .int r11), (3, .int x7), (2, .int r6), (0, .ref (ad X 12)), (1, .int v1)] dX12_longOf_70 (Nat.le_of_ble_eq_true rfl) rfl ?_
  refine g_iload_n (pc := 72) C dX12_longOf_72 rfl 1 rfl ?_
  refine g_iload (pc := 73) C dX12_longOf_73 0 rfl ?_
  refine g_icmp_ge (pc := 75) (tgt := 83) C h dX12_longOf_75 (by decide) (fun h => ?_) (fun h => ?_)
  · refine g_iload_n (pc := 83) C dX12_longOf_83 rfl 1 rfl ?_
    refine g_weak (lv1 := []) [] rfl ?_
    exact s_X12_longOf_b84 C x7  S10 h
  · refine g_iload (pc := 78) C dX12_longOf_78 0 rfl ?_
    refine g_goto (pc := 80) (tgt := 84) C dX12_longOf_80 (by decide) ?_
    refine g_weak (lv1 := []) [] rfl ?_
    exact s_X12_longOf_b84 C r11  S10 h
set_option maxRecDepth 100000 in
set_option maxHeartbeats 4000000 in
theorem s_X12_longOf_b0 {X : MC} (C : Cx X cX12_longOf RX12 wsX12_longOf 5 rmX12_longOf (some .int)) (a1 : Int32) (S : St) {r0 : Int32 × St} (h : f_X12_longOf_b0 a1 S = some r0) : G X (QM mkI X r0) S 0 [(0, .ref (ad X 12)), (1, .int a1)] [] := by
  unfold f_X12_longOf_b0 at h
  refine g_aload_n (pc := 0) C dX12_longOf_0 rfl 0 rfl ?_
  refine g_aload_n (pc := 1) C dX12_longOf_1 rfl 0 rfl ?_
  refine g_get (pc := 2) C 12 (w_12 _ _) rfl 2 (Nat.le_of_ble_eq_true rfl) in_X12_X12_longOf k7_X12_longOf rfl dX12_longOf_2 ?_
  refine g_iload_n (pc := 5) C dX12_longOf_5 rfl 1 rfl ?_
  refine g_iald (pc := 6) C 49 (w_49 _ _) h dX12_longOf_6 (fun h => ?_)
  refine g_aload_n (pc := 7) C dX12_longOf_7 rfl 0 rfl ?_
  refine g_iload_n (pc := 8) C dX12_longOf_8 rfl 1 rfl ?_
  refine g_iconst (pc := 9) (v := 1) C dX12_longOf_9 (by decide) ?_
  refine g_callV (pc := 10) C 12 (c_X12_has (Xl X) (Xb X) a1 1 S) gX12_longOf_X12_has rfl rfl rfl hd_X12_has ⟨Nat.le_of_ble_eq_true rfl, Nat.le_of_ble_eq_true rfl⟩ (w_12 _ _) rfl rfl rfl (Nat.le_of_ble_eq_true rfl) dX12_longOf_10 h (fun r2 S1 h => ?_)
  change G X _ S1 13 [(0, .ref (ad X 12)), (1, .int a1)] [.int r2, .int (rd S 49 a1), .ref (ad X 12)]
  refine g_if_eq (pc := 13) (tgt := 20) C h dX12_longOf_13 (by decide) (fun h => ?_) (fun h => ?_)
  · refine g_aload_n (pc := 20) C dX12_longOf_20 rfl 0 rfl ?_
    refine g_iload_n (pc := 21) C dX12_longOf_21 rfl 1 rfl ?_
    refine g_iconst (pc := 22) (v := 2) C dX12_longOf_22 (by decide) ?_
    refine g_callV (pc := 23) C 12 (c_X12_has (Xl X) (Xb X) a1 2 S1) gX12_longOf_X12_has rfl rfl rfl hd_X12_has ⟨Nat.le_of_ble_eq_true rfl, Nat.le_of_ble_eq_true rfl⟩ (w_12 _ _) rfl rfl rfl (Nat.le_of_ble_eq_true rfl) dX12_longOf_23 h (fun r4 S3 h => ?_)
    change G X _ S3 26 [(0, .ref (ad X 12)), (1, .int a1)] [.int r4, .int (rd S 49 a1), .ref (ad X 12)]
    refine g_if_eq (pc := 26) (tgt := 33) C h dX12_longOf_26 (by decide) (fun h => ?_) (fun h => ?_)
    · refine g_iconst (pc := 33) (v := 1) C dX12_longOf_33 (by decide) ?_
      refine g_weak (lv1 := [(0, .ref (ad X 12)), (1, .int a1)]) [0, 1] rfl ?_
      exact s_X12_longOf_b34 C a1 (rd S 49 a1) 1  S3 h
    · refine g_iconst (pc := 29) (v := 2) C dX12_longOf_29 (by decide) ?_
      refine g_goto (pc := 30) (tgt := 34) C dX12_longOf_30 (by decide) ?_
      refine g_weak (lv1 := [(0, .ref (ad X 12)), (1, .int a1)]) [0, 1] rfl ?_
      exact s_X12_longOf_b34 C a1 (rd S 49 a1) 2  S3 h
  · refine g_iconst (pc := 16) (v := 0) C dX12_longOf_16 (by decide) ?_
    refine g_goto (pc := 17) (tgt := 34) C dX12_longOf_17 (by decide) ?_
    refine g_weak (lv1 := [(0, .ref (ad X 12)), (1, .int a1)]) [0, 1] rfl ?_
    exact s_X12_longOf_b34 C a1 (rd S 49 a1) 0  S1 h
theorem c_X12_longOf (l : Launch) (b : Bw) (a1 : Int32) (S : St) : Ct l b yX12_longOf wsX12_longOf rmX12_longOf [.ref (bad b 12), .int a1] S mkI (f_X12_longOf a1 S) := Ct.of (by decide +kernel) rfl (Nat.le_of_ble_eq_true rfl) (fun X C hl hb r h => by
  subst hl; subst hb
  exact s_X12_longOf_b0 C a1 S h)
/-! StyleRowsModel.loudOf(I)I -/
set_option maxRecDepth 100000 in
set_option maxHeartbeats 4000000 in
theorem s_X12_loudOf_b119 {X : MC} (C : Cx X cX12_loudOf RX12 wsX12_loudOf 3 rmX12_loudOf (some .int)) (w0 : Int32) (S : St) {r0 : Int32 × St} (h : f_X12_loudOf_b119 w0 S = some r0) : G X (QM mkI X r0) S 119 [] [.int w0] := by
  unfold f_X12_loudOf_b119 at h
  exact g_iret (pc := 119) C h dX12_loudOf_119
set_option maxRecDepth 100000 in
set_option maxHeartbeats 4000000 in
theorem s_X12_loudOf_b102 {X : MC} (C : Cx X cX12_loudOf RX12 wsX12_loudOf 3 rmX12_loudOf (some .int)) (w0 : Int32) (w1 : Int32) (S : St) {r0 : Int32 × St} (h : f_X12_loudOf_b102 w0 w1 S = some r0) : G X (QM mkI X r0) S 102 [] [.int w1, .int w0] := by
  unfold f_X12_loudOf_b102 at h
  refine g_iadd (pc := 102) C dX12_loudOf_102 ?_
  refine g_leti h (fun x6 h => ?_)
  refine g_istore_n (pc := 103) C [(2, .int x6)] dX12_loudOf_103 rfl (Nat.le_of_ble_eq_true rfl) rfl ?_
  refine g_iload_n (pc := 104) C dX12_loudOf_104 rfl 0 rfl ?_
  refine g_iconst (pc := 105) (v := 1) C dX12_loudOf_105 (by decide) ?_
  refine g_icmp_ge (pc := 106) (tgt := 113) C h dX12_loudOf_106 (by decide) (fun h => ?_) (fun h => ?_)
  · refine g_iload_n (pc := 113) C dX12_loudOf_113 rfl 0 rfl ?_
    refine g_bipush (pc := 114) (v := 127) C dX12_loudOf_114 (by decide) ?_
    refine g_callS (pc := 116) C (c_X12_lesser (Xl X) (Xb X) x6 127 S) gX12_loudOf_X12_lesser rfl rfl rfl hd_X12_lesser ⟨Nat.le_of_ble_eq_true rfl, Nat.le_of_ble_eq_true rfl⟩ rfl rfl (Nat.le_of_ble_eq_true rfl) dX12_loudOf_116 h (fun r8 S7 h => ?_)
    change G X _ S7 119 [(2, .int x6)] [.int r8]
    refine g_weak (lv1 := []) [] rfl ?_
    exact s_X12_loudOf_b119 C r8  S7 h
  · refine g_iconst (pc := 109) (v := 1) C dX12_loudOf_109 (by decide) ?_
    refine g_goto (pc := 110) (tgt := 119) C dX12_loudOf_110 (by decide) ?_
    refine g_weak (lv1 := []) [] rfl ?_
    exact s_X12_loudOf_b119 C 1  S h
set_option maxRecDepth 100000 in
set_option maxHeartbeats 4000000 in
theorem s_X12_loudOf_b36 {X : MC} (C : Cx X cX12_loudOf RX12 wsX12_loudOf 3 rmX12_loudOf (some .int)) (v1 : Int32) (w0 : Int32) (w1 : Int32) (S : St) {r0 : Int32 × St} (h : f_X12_loudOf_b36 v1 w0 w1 S = some r0) : G X (QM mkI X r0) S 36 [(0, .ref (ad X 12)), (1, .int v1)] [.int w1, .int w0] := by
  unfold f_X12_loudOf_b36 at h
  refine g_iadd (pc := 36) C dX12_loudOf_36 ?_
  refine g_leti h (fun x5 h => ?_)
  refine g_istore_n (pc := 37) C [(2, .int x5), (0, .ref (ad X 12)), (1, .int v1)] dX12_loudOf_37 rfl (Nat.le_of_ble_eq_true rfl) rfl ?_
  refine g_iload_n (pc := 38) C dX12_loudOf_38 rfl 0 rfl ?_
  refine g_aload_n (pc := 39) C dX12_loudOf_39 rfl 1 rfl ?_
  refine g_get (pc := 40) C 12 (w_12 _ _) rfl 3 (Nat.le_of_ble_eq_true rfl) in_X12_X12_loudOf k13_X12_loudOf rfl dX12_loudOf_40 ?_
  refine g_iload_n (pc := 43) C dX12_loudOf_43 rfl 2 rfl ?_
  refine g_iald (pc := 44) C 50 (w_50 _ _) h dX12_loudOf_44 (fun h => ?_)
  refine g_aload_n (pc := 45) C dX12_loudOf_45 rfl 1 rfl ?_
  refine g_get (pc := 46) C 12 (w_12 _ _) rfl 11 (Nat.le_of_ble_eq_true rfl) in_X12_X12_loudOf k35_X12_loudOf rfl dX12_loudOf_46 ?_
  refine g_aload_n (pc := 49) C dX12_loudOf_49 rfl 1 rfl ?_
  refine g_get (pc := 50) C 12 (w_12 _ _) rfl 12 (Nat.le_of_ble_eq_true rfl) in_X12_X12_loudOf k39_X12_loudOf rfl dX12_loudOf_50 ?_
  refine g_imul (pc := 53) C dX12_loudOf_53 ?_
  refine g_irem (pc := 54) C h dX12_loudOf_54 (fun h => ?_)
  refine g_if_ne (pc := 55) (tgt := 72) C h dX12_loudOf_55 (by decide) (fun h => ?_) (fun h => ?_)
  · refine g_aload_n (pc := 72) C dX12_loudOf_72 rfl 1 rfl ?_
    refine g_get (pc := 73) C 12 (w_12 _ _) rfl 3 (Nat.le_of_ble_eq_true rfl) in_X12_X12_loudOf k13_X12_loudOf rfl dX12_loudOf_73 ?_
    refine g_iload_n (pc := 76) C dX12_loudOf_76 rfl 2 rfl ?_
    refine g_iald (pc := 77) C 50 (w_50 _ _) h dX12_loudOf_77 (fun h => ?_)
    refine g_aload_n (pc := 78) C dX12_loudOf_78 rfl 1 rfl ?_
    refine g_get (pc := 79) C 12 (w_12 _ _) rfl 12 (Nat.le_of_ble_eq_true rfl) in_X12_X12_loudOf k39_X12_loudOf rfl dX12_loudOf_79 ?_
    refine g_irem (pc := 82) C h dX12_loudOf_82 (fun h => ?_)
    refine g_if_ne (pc := 83) (tgt := 101) C h dX12_loudOf_83 (by decide) (fun h => ?_) (fun h => ?_)
    · refine g_iconst (pc := 101) (v := 0) C dX12_loudOf_101 (by decide) ?_
      refine g_weak (lv1 := []) [] rfl ?_
      exact s_X12_loudOf_b102 C x5 0  S h
    · refine g_aload_n (pc := 86) C dX12_loudOf_86 rfl 1 rfl ?_
      refine g_aload_n (pc := 87) C dX12_loudOf_87 rfl 1 rfl ?_
      refine g_get (pc := 88) C 12 (w_12 _ _) rfl 2 (Nat.le_of_ble_eq_true rfl) in_X12_X12_loudOf k7_X12_loudOf rfl dX12_loudOf_88 ?_
      refine g_iload_n (pc := 91) C dX12_loudOf_91 rfl 2 rfl ?_
      refine g_iald (pc := 92) C 49 (w_49 _ _) h dX12_loudOf_92 (fun h => ?_)
      refine g_bipush (pc := 93) (v := 6) C dX12_loudOf_93 (by decide) ?_
      refine g_callV (pc := 95) C 12 (c_X12_number (Xl X) (Xb X) (rd S 49 v1) 6 S) gX12_loudOf_X12_number rfl rfl rfl hd_X12_number ⟨Nat.le_of_ble_eq_true rfl, Nat.le_of_ble_eq_true rfl⟩ (w_12 _ _) rfl rfl rfl (Nat.le_of_ble_eq_true rfl) dX12_loudOf_95 h (fun r10 S9 h => ?_)
      change G X _ S9 98 [(2, .int x5), (0, .ref (ad X 12)), (1, .int v1)] [.int r10, .int x5]
      refine g_goto (pc := 98) (tgt := 102) C dX12_loudOf_98 (by decide) ?_
      refine g_weak (lv1 := []) [] rfl ?_
      exact s_X12_loudOf_b102 C x5 r10  S9 h
  · refine g_aload_n (pc := 58) C dX12_loudOf_58 rfl 1 rfl ?_
    refine g_aload_n (pc := 59) C dX12_loudOf_59 rfl 1 rfl ?_
    refine g_get (pc := 60) C 12 (w_12 _ _) rfl 2 (Nat.le_of_ble_eq_true rfl) in_X12_X12_loudOf k7_X12_loudOf rfl dX12_loudOf_60 ?_
    refine g_iload_n (pc := 63) C dX12_loudOf_63 rfl 2 rfl ?_
    refine g_iald (pc := 64) C 49 (w_49 _ _) h dX12_loudOf_64 (fun h => ?_)
    refine g_iconst (pc := 65) (v := 5) C dX12_loudOf_65 (by decide) ?_
    refine g_callV (pc := 66) C 12 (c_X12_number (Xl X) (Xb X) (rd S 49 v1) 5 S) gX12_loudOf_X12_number rfl rfl rfl hd_X12_number ⟨Nat.le_of_ble_eq_true rfl, Nat.le_of_ble_eq_true rfl⟩ (w_12 _ _) rfl rfl rfl (Nat.le_of_ble_eq_true rfl) dX12_loudOf_66 h (fun r12 S11 h => ?_)
    change G X _ S11 69 [(2, .int x5), (0, .ref (ad X 12)), (1, .int v1)] [.int r12, .int x5]
    refine g_goto (pc := 69) (tgt := 102) C dX12_loudOf_69 (by decide) ?_
    refine g_weak (lv1 := []) [] rfl ?_
    exact s_X12_loudOf_b102 C x5 r12  S11 h
set_option maxRecDepth 100000 in
set_option maxHeartbeats 4000000 in
theorem s_X12_loudOf_b0 {X : MC} (C : Cx X cX12_loudOf RX12 wsX12_loudOf 3 rmX12_loudOf (some .int)) (a1 : Int32) (S : St) {r0 : Int32 × St} (h : f_X12_loudOf_b0 a1 S = some r0) : G X (QM mkI X r0) S 0 [(0, .ref (ad X 12)), (1, .int a1)] [] := by
  unfold f_X12_loudOf_b0 at h
  refine g_aload_n (pc := 0) C dX12_loudOf_0 rfl 0 rfl ?_
  refine g_aload_n (pc := 1) C dX12_loudOf_1 rfl 0 rfl ?_
  refine g_get (pc := 2) C 12 (w_12 _ _) rfl 3 (Nat.le_of_ble_eq_true rfl) in_X12_X12_loudOf k13_X12_loudOf rfl dX12_loudOf_2 ?_
  refine g_iload_n (pc := 5) C dX12_loudOf_5 rfl 1 rfl ?_
  refine g_iald (pc := 6) C 50 (w_50 _ _) h dX12_loudOf_6 (fun h => ?_)
  refine g_callV (pc := 7) C 12 (c_X12_highAt (Xl X) (Xb X) (rd S 50 a1) S) gX12_loudOf_X12_highAt rfl rfl rfl hd_X12_highAt ⟨Nat.le_of_ble_eq_true rfl, Nat.le_of_ble_eq_true rfl⟩ (w_12 _ _) rfl rfl rfl (Nat.le_of_ble_eq_true rfl) dX12_loudOf_7 h (fun r2 S1 h => ?_)
  change G X _ S1 10 [(0, .ref (ad X 12)), (1, .int a1)] [.int r2]
  refine g_istore_n (pc := 10) C [(2, .int r2), (0, .ref (ad X 12)), (1, .int a1)] dX12_loudOf_10 rfl (Nat.le_of_ble_eq_true rfl) rfl ?_
  refine g_iload_n (pc := 11) C dX12_loudOf_11 rfl 0 rfl ?_
  refine g_aload_n (pc := 12) C dX12_loudOf_12 rfl 1 rfl ?_
  refine g_iload_n (pc := 13) C dX12_loudOf_13 rfl 2 rfl ?_
  refine g_iconst (pc := 14) (v := 4) C dX12_loudOf_14 (by decide) ?_
  refine g_callV (pc := 15) C 12 (c_X12_has (Xl X) (Xb X) a1 4 S1) gX12_loudOf_X12_has rfl rfl rfl hd_X12_has ⟨Nat.le_of_ble_eq_true rfl, Nat.le_of_ble_eq_true rfl⟩ (w_12 _ _) rfl rfl rfl (Nat.le_of_ble_eq_true rfl) dX12_loudOf_15 h (fun r4 S3 h => ?_)
  change G X _ S3 18 [(2, .int r2), (0, .ref (ad X 12)), (1, .int a1)] [.int r4, .int r2]
  refine g_if_eq (pc := 18) (tgt := 35) C h dX12_loudOf_18 (by decide) (fun h => ?_) (fun h => ?_)
  · refine g_iconst (pc := 35) (v := 0) C dX12_loudOf_35 (by decide) ?_
    refine g_weak (lv1 := [(0, .ref (ad X 12)), (1, .int a1)]) [1, 2] rfl ?_
    exact s_X12_loudOf_b36 C a1 r2 0  S3 h
  · refine g_aload_n (pc := 21) C dX12_loudOf_21 rfl 1 rfl ?_
    refine g_aload_n (pc := 22) C dX12_loudOf_22 rfl 1 rfl ?_
    refine g_get (pc := 23) C 12 (w_12 _ _) rfl 2 (Nat.le_of_ble_eq_true rfl) in_X12_X12_loudOf k7_X12_loudOf rfl dX12_loudOf_23 ?_
    refine g_iload_n (pc := 26) C dX12_loudOf_26 rfl 2 rfl ?_
    refine g_iald (pc := 27) C 49 (w_49 _ _) h dX12_loudOf_27 (fun h => ?_)
    refine g_iconst (pc := 28) (v := 4) C dX12_loudOf_28 (by decide) ?_
    refine g_callV (pc := 29) C 12 (c_X12_number (Xl X) (Xb X) (rd S3 49 a1) 4 S3) gX12_loudOf_X12_number rfl rfl rfl hd_X12_number ⟨Nat.le_of_ble_eq_true rfl, Nat.le_of_ble_eq_true rfl⟩ (w_12 _ _) rfl rfl rfl (Nat.le_of_ble_eq_true rfl) dX12_loudOf_29 h (fun r14 S13 h => ?_)
    change G X _ S13 32 [(2, .int r2), (0, .ref (ad X 12)), (1, .int a1)] [.int r14, .int r2]
    refine g_goto (pc := 32) (tgt := 36) C dX12_loudOf_32 (by decide) ?_
    refine g_weak (lv1 := [(0, .ref (ad X 12)), (1, .int a1)]) [1, 2] rfl ?_
    exact s_X12_loudOf_b36 C a1 r2 r14  S13 h
theorem c_X12_loudOf (l : Launch) (b : Bw) (a1 : Int32) (S : St) : Ct l b yX12_loudOf wsX12_loudOf rmX12_loudOf [.ref (bad b 12), .int a1] S mkI (f_X12_loudOf a1 S) := Ct.of (by decide +kernel) rfl (Nat.le_of_ble_eq_true rfl) (fun X C hl hb r h => by
  subst hl; subst hb
  exact s_X12_loudOf_b0 C a1 S h)
/-! StyleRowsModel.sounds(IIIII)V -/
set_option maxRecDepth 100000 in
set_option maxHeartbeats 4000000 in
theorem s_X12_sounds_b146 {X : MC} (C : Cx X cX12_sounds RX12 wsX12_sounds 8 rmX12_sounds none) (v5 : Int32) (S : St) {r0 : Unit × St} (h : f_X12_sounds_b146 v5 S = some r0) : G X (QM mkV X r0) S 146 [(0, .ref (ad X 12)), (5, .int v5)] [] := by
  unfold f_X12_sounds_b146 at h
  refine g_aload_n (pc := 146) C dX12_sounds_146 rfl 0 rfl ?_
  refine g_dup (pc := 147) C dX12_sounds_147 rfl ?_
  refine g_get (pc := 148) C 12 (w_12 _ _) rfl 28 (Nat.le_of_ble_eq_true rfl) in_X12_X12_sounds k209_X12_sounds rfl dX12_sounds_148 ?_
  refine g_iconst (pc := 151) (v := 1) C dX12_sounds_151 (by decide) ?_
  refine g_iadd (pc := 152) C dX12_sounds_152 ?_
  refine g_put (pc := 153) C 12 (w_12 _ _) rfl 28 (Nat.le_of_ble_eq_true rfl) in_X12_X12_sounds tyX12_ok nmX12 k209_X12_sounds rfl rfl rfl (Nat.le_of_ble_eq_true rfl) (ws_12_28 _ _ _) dX12_sounds_153 h (fun S1 h => ?_)
  refine g_aload_n (pc := 156) C dX12_sounds_156 rfl 0 rfl ?_
  refine g_dup (pc := 157) C dX12_sounds_157 rfl ?_
  refine g_get (pc := 158) C 12 (w_12 _ _) rfl 32 (Nat.le_of_ble_eq_true rfl) in_X12_X12_sounds k212_X12_sounds rfl dX12_sounds_158 ?_
  refine g_iload (pc := 161) C dX12_sounds_161 1 rfl ?_
  refine g_iadd (pc := 163) C dX12_sounds_163 ?_
  refine g_put (pc := 164) C 12 (w_12 _ _) rfl 32 (Nat.le_of_ble_eq_true rfl) in_X12_X12_sounds tyX12_ok nmX12 k212_X12_sounds rfl rfl rfl (Nat.le_of_ble_eq_true rfl) (ws_12_32 _ _ _) dX12_sounds_164 h (fun S2 h => ?_)
  refine g_aload_n (pc := 167) C dX12_sounds_167 rfl 0 rfl ?_
  refine g_dup (pc := 168) C dX12_sounds_168 rfl ?_
  refine g_get (pc := 169) C 12 (w_12 _ _) rfl 33 (Nat.le_of_ble_eq_true rfl) in_X12_X12_sounds k215_X12_sounds rfl dX12_sounds_169 ?_
  refine g_iload (pc := 172) C dX12_sounds_172 1 rfl ?_
  refine g_isub (pc := 174) C dX12_sounds_174 ?_
  refine g_put (pc := 175) C 12 (w_12 _ _) rfl 33 (Nat.le_of_ble_eq_true rfl) in_X12_X12_sounds tyX12_ok nmX12 k215_X12_sounds rfl rfl rfl (Nat.le_of_ble_eq_true rfl) (ws_12_33 _ _ _) dX12_sounds_175 h (fun S3 h => ?_)
  exact g_vret (pc := 178) C h dX12_sounds_178
set_option maxRecDepth 100000 in
set_option maxHeartbeats 4000000 in
theorem s_X12_sounds_b77 {X : MC} (C : Cx X cX12_sounds RX12 wsX12_sounds 8 rmX12_sounds none) (v1 : Int32) (v2 : Int32) (v3 : Int32) (v4 : Int32) (v5 : Int32) (w1 : Int32) (w2 : Int32) (S : St) {r0 : Unit × St} (h : f_X12_sounds_b77 v1 v2 v3 v4 v5 w1 w2 S = some r0) : G X (QM mkV X r0) S 77 [(0, .ref (ad X 12)), (1, .int v1), (2, .int v2), (3, .int v3), (4, .int v4), (5, .int v5)] [.int w2, .int w1, .ref (ad X 65)] := by
  unfold f_X12_sounds_b77 at h
  refine g_iast (pc := 77) C 65 (w_65 _ _) (ws_65 _ _) h dX12_sounds_77 (fun S10 h => ?_)
  refine g_aload_n (pc := 78) C dX12_sounds_78 rfl 0 rfl ?_
  refine g_get (pc := 79) C 12 (w_12 _ _) rfl 29 (Nat.le_of_ble_eq_true rfl) in_X12_X12_sounds k66_X12_sounds rfl dX12_sounds_79 ?_
  refine g_bipush (pc := 82) (v := 6) C dX12_sounds_82 (by decide) ?_
  refine g_aload_n (pc := 84) C dX12_sounds_84 rfl 0 rfl ?_
  refine g_get (pc := 85) C 12 (w_12 _ _) rfl 28 (Nat.le_of_ble_eq_true rfl) in_X12_X12_sounds k209_X12_sounds rfl dX12_sounds_85 ?_
  refine g_imul (pc := 88) C dX12_sounds_88 ?_
  refine g_iconst (pc := 89) (v := 2) C dX12_sounds_89 (by decide) ?_
  refine g_iadd (pc := 90) C dX12_sounds_90 ?_
  refine g_aload_n (pc := 91) C dX12_sounds_91 rfl 0 rfl ?_
  refine g_get (pc := 92) C 12 (w_12 _ _) rfl 5 (Nat.le_of_ble_eq_true rfl) in_X12_X12_sounds k19_X12_sounds rfl dX12_sounds_92 ?_
  refine g_iload_n (pc := 95) C dX12_sounds_95 rfl 1 rfl ?_
  refine g_iald (pc := 96) C 52 (w_52 _ _) h dX12_sounds_96 (fun h => ?_)
  refine g_iload_n (pc := 97) C dX12_sounds_97 rfl 3 rfl ?_
  refine g_iadd (pc := 98) C dX12_sounds_98 ?_
  refine g_iast (pc := 99) C 65 (w_65 _ _) (ws_65 _ _) h dX12_sounds_99 (fun S11 h => ?_)
  refine g_aload_n (pc := 100) C dX12_sounds_100 rfl 0 rfl ?_
  refine g_get (pc := 101) C 12 (w_12 _ _) rfl 29 (Nat.le_of_ble_eq_true rfl) in_X12_X12_sounds k66_X12_sounds rfl dX12_sounds_101 ?_
  refine g_bipush (pc := 104) (v := 6) C dX12_sounds_104 (by decide) ?_
  refine g_aload_n (pc := 106) C dX12_sounds_106 rfl 0 rfl ?_
  refine g_get (pc := 107) C 12 (w_12 _ _) rfl 28 (Nat.le_of_ble_eq_true rfl) in_X12_X12_sounds k209_X12_sounds rfl dX12_sounds_107 ?_
  refine g_imul (pc := 110) C dX12_sounds_110 ?_
  refine g_iconst (pc := 111) (v := 3) C dX12_sounds_111 (by decide) ?_
  refine g_iadd (pc := 112) C dX12_sounds_112 ?_
  refine g_iload (pc := 113) C dX12_sounds_113 4 rfl ?_
  refine g_iast (pc := 115) C 65 (w_65 _ _) (ws_65 _ _) h dX12_sounds_115 (fun S12 h => ?_)
  refine g_aload_n (pc := 116) C dX12_sounds_116 rfl 0 rfl ?_
  refine g_get (pc := 117) C 12 (w_12 _ _) rfl 29 (Nat.le_of_ble_eq_true rfl) in_X12_X12_sounds k66_X12_sounds rfl dX12_sounds_117 ?_
  refine g_bipush (pc := 120) (v := 6) C dX12_sounds_120 (by decide) ?_
  refine g_aload_n (pc := 122) C dX12_sounds_122 rfl 0 rfl ?_
  refine g_get (pc := 123) C 12 (w_12 _ _) rfl 28 (Nat.le_of_ble_eq_true rfl) in_X12_X12_sounds k209_X12_sounds rfl dX12_sounds_123 ?_
  refine g_imul (pc := 126) C dX12_sounds_126 ?_
  refine g_iconst (pc := 127) (v := 4) C dX12_sounds_127 (by decide) ?_
  refine g_iadd (pc := 128) C dX12_sounds_128 ?_
  refine g_iload_n (pc := 129) C dX12_sounds_129 rfl 1 rfl ?_
  refine g_iast (pc := 130) C 65 (w_65 _ _) (ws_65 _ _) h dX12_sounds_130 (fun S13 h => ?_)
  refine g_aload_n (pc := 131) C dX12_sounds_131 rfl 0 rfl ?_
  refine g_get (pc := 132) C 12 (w_12 _ _) rfl 29 (Nat.le_of_ble_eq_true rfl) in_X12_X12_sounds k66_X12_sounds rfl dX12_sounds_132 ?_
  refine g_bipush (pc := 135) (v := 6) C dX12_sounds_135 (by decide) ?_
  refine g_aload_n (pc := 137) C dX12_sounds_137 rfl 0 rfl ?_
  refine g_get (pc := 138) C 12 (w_12 _ _) rfl 28 (Nat.le_of_ble_eq_true rfl) in_X12_X12_sounds k209_X12_sounds rfl dX12_sounds_138 ?_
  refine g_imul (pc := 141) C dX12_sounds_141 ?_
  refine g_iconst (pc := 142) (v := 5) C dX12_sounds_142 (by decide) ?_
  refine g_iadd (pc := 143) C dX12_sounds_143 ?_
  refine g_iload_n (pc := 144) C dX12_sounds_144 rfl 2 rfl ?_
  refine g_iast (pc := 145) C 65 (w_65 _ _) (ws_65 _ _) h dX12_sounds_145 (fun S14 h => ?_)
  refine g_weak (lv1 := [(0, .ref (ad X 12)), (5, .int v5)]) [0, 5] rfl ?_
  exact s_X12_sounds_b146 C v5  S14 h
set_option maxRecDepth 100000 in
set_option maxHeartbeats 4000000 in
theorem s_X12_sounds_b0 {X : MC} (C : Cx X cX12_sounds RX12 wsX12_sounds 8 rmX12_sounds none) (a1 : Int32) (a2 : Int32) (a3 : Int32) (a4 : Int32) (a5 : Int32) (S : St) {r0 : Unit × St} (h : f_X12_sounds_b0 a1 a2 a3 a4 a5 S = some r0) : G X (QM mkV X r0) S 0 [(0, .ref (ad X 12)), (1, .int a1), (2, .int a2), (3, .int a3), (4, .int a4), (5, .int a5)] [] := by
  unfold f_X12_sounds_b0 at h
  refine g_aload_n (pc := 0) C dX12_sounds_0 rfl 0 rfl ?_
  refine g_get (pc := 1) C 12 (w_12 _ _) rfl 28 (Nat.le_of_ble_eq_true rfl) in_X12_X12_sounds k209_X12_sounds rfl dX12_sounds_1 ?_
  refine g_sipush (pc := 4) (v := 400) C dX12_sounds_4 (by decide) ?_
  refine g_icmp_ge (pc := 7) (tgt := 146) C h dX12_sounds_7 (by decide) (fun h => ?_) (fun h => ?_)
  · refine g_weak (lv1 := [(0, .ref (ad X 12)), (5, .int a5)]) [0, 5] rfl ?_
    exact s_X12_sounds_b146 C a5  S h
  · refine g_aload_n (pc := 10) C dX12_sounds_10 rfl 0 rfl ?_
    refine g_aload_n (pc := 11) C dX12_sounds_11 rfl 0 rfl ?_
    refine g_get (pc := 12) C 12 (w_12 _ _) rfl 32 (Nat.le_of_ble_eq_true rfl) in_X12_X12_sounds k212_X12_sounds rfl dX12_sounds_12 ?_
    refine g_callV (pc := 15) C 12 (c_X12_time (Xl X) (Xb X) (gI S 35) S) gX12_sounds_X12_time rfl rfl rfl hd_X12_time ⟨Nat.le_of_ble_eq_true rfl, Nat.le_of_ble_eq_true rfl⟩ (w_12 _ _) rfl rfl rfl (Nat.le_of_ble_eq_true rfl) dX12_sounds_15 h (fun r5 S4 h => ?_)
    change G X _ S4 18 [(0, .ref (ad X 12)), (1, .int a1), (2, .int a2), (3, .int a3), (4, .int a4), (5, .int a5)] [.int r5]
    refine g_istore (pc := 18) C [(6, .int r5), (0, .ref (ad X 12)), (1, .int a1), (2, .int a2), (3, .int a3), (4, .int a4), (5, .int a5)] dX12_sounds_18 (Nat.le_of_ble_eq_true rfl) rfl ?_
    refine g_aload_n (pc := 20) C dX12_sounds_20 rfl 1 rfl ?_
    refine g_aload_n (pc := 21) C dX12_sounds_21 rfl 1 rfl ?_
    refine g_get (pc := 22) C 12 (w_12 _ _) rfl 32 (Nat.le_of_ble_eq_true rfl) in_X12_X12_sounds k212_X12_sounds rfl dX12_sounds_22 ?_
    refine g_iload (pc := 25) C dX12_sounds_25 6 rfl ?_
    refine g_iadd (pc := 27) C dX12_sounds_27 ?_
    refine g_callV (pc := 28) C 12 (c_X12_time (Xl X) (Xb X) ((gI S4 35) + a5) S4) gX12_sounds_X12_time rfl rfl rfl hd_X12_time ⟨Nat.le_of_ble_eq_true rfl, Nat.le_of_ble_eq_true rfl⟩ (w_12 _ _) rfl rfl rfl (Nat.le_of_ble_eq_true rfl) dX12_sounds_28 h (fun r7 S6 h => ?_)
    change G X _ S6 31 [(6, .int r5), (0, .ref (ad X 12)), (1, .int a1), (2, .int a2), (3, .int a3), (4, .int a4), (5, .int a5)] [.int r7]
    refine g_iload (pc := 31) C dX12_sounds_31 0 rfl ?_
    refine g_isub (pc := 33) C dX12_sounds_33 ?_
    refine g_leti h (fun x8 h => ?_)
    refine g_istore (pc := 34) C [(7, .int x8), (6, .int r5), (0, .ref (ad X 12)), (1, .int a1), (2, .int a2), (3, .int a3), (4, .int a4), (5, .int a5)] dX12_sounds_34 (Nat.le_of_ble_eq_true rfl) rfl ?_
    refine g_aload_n (pc := 36) C dX12_sounds_36 rfl 2 rfl ?_
    refine g_get (pc := 37) C 12 (w_12 _ _) rfl 29 (Nat.le_of_ble_eq_true rfl) in_X12_X12_sounds k66_X12_sounds rfl dX12_sounds_37 ?_
    refine g_bipush (pc := 40) (v := 6) C dX12_sounds_40 (by decide) ?_
    refine g_aload_n (pc := 42) C dX12_sounds_42 rfl 2 rfl ?_
    refine g_get (pc := 43) C 12 (w_12 _ _) rfl 28 (Nat.le_of_ble_eq_true rfl) in_X12_X12_sounds k209_X12_sounds rfl dX12_sounds_43 ?_
    refine g_imul (pc := 46) C dX12_sounds_46 ?_
    refine g_iconst (pc := 47) (v := 0) C dX12_sounds_47 (by decide) ?_
    refine g_iadd (pc := 48) C dX12_sounds_48 ?_
    refine g_iload (pc := 49) C dX12_sounds_49 1 rfl ?_
    refine g_iast (pc := 51) C 65 (w_65 _ _) (ws_65 _ _) h dX12_sounds_51 (fun S9 h => ?_)
    refine g_aload_n (pc := 52) C dX12_sounds_52 rfl 2 rfl ?_
    refine g_get (pc := 53) C 12 (w_12 _ _) rfl 29 (Nat.le_of_ble_eq_true rfl) in_X12_X12_sounds k66_X12_sounds rfl dX12_sounds_53 ?_
    refine g_bipush (pc := 56) (v := 6) C dX12_sounds_56 (by decide) ?_
    refine g_aload_n (pc := 58) C dX12_sounds_58 rfl 2 rfl ?_
    refine g_get (pc := 59) C 12 (w_12 _ _) rfl 28 (Nat.le_of_ble_eq_true rfl) in_X12_X12_sounds k209_X12_sounds rfl dX12_sounds_59 ?_
    refine g_imul (pc := 62) C dX12_sounds_62 ?_
    refine g_iconst (pc := 63) (v := 1) C dX12_sounds_63 (by decide) ?_
    refine g_iadd (pc := 64) C dX12_sounds_64 ?_
    refine g_iload (pc := 65) C dX12_sounds_65 0 rfl ?_
    refine g_iconst (pc := 67) (v := 1) C dX12_sounds_67 (by decide) ?_
    refine g_icmp_ge (pc := 68) (tgt := 75) C h dX12_sounds_68 (by decide) (fun h => ?_) (fun h => ?_)
    · refine g_iload (pc := 75) C dX12_sounds_75 0 rfl ?_
      refine g_weak (lv1 := [(0, .ref (ad X 12)), (1, .int a1), (2, .int a2), (3, .int a3), (4, .int a4), (5, .int a5)]) [2, 3, 4, 5, 6, 7] rfl ?_
      exact s_X12_sounds_b77 C a1 a2 a3 a4 a5 ((6 * (gI S9 33)) + 1) x8  S9 h
    · refine g_iconst (pc := 71) (v := 1) C dX12_sounds_71 (by decide) ?_
      refine g_goto (pc := 72) (tgt := 77) C dX12_sounds_72 (by decide) ?_
      refine g_weak (lv1 := [(0, .ref (ad X 12)), (1, .int a1), (2, .int a2), (3, .int a3), (4, .int a4), (5, .int a5)]) [2, 3, 4, 5, 6, 7] rfl ?_
      exact s_X12_sounds_b77 C a1 a2 a3 a4 a5 ((6 * (gI S9 33)) + 1) 1  S9 h
theorem c_X12_sounds (l : Launch) (b : Bw) (a1 : Int32) (a2 : Int32) (a3 : Int32) (a4 : Int32) (a5 : Int32) (S : St) : Ct l b yX12_sounds wsX12_sounds rmX12_sounds [.ref (bad b 12), .int a1, .int a2, .int a3, .int a4, .int a5] S mkV (f_X12_sounds a1 a2 a3 a4 a5 S) := Ct.of (by decide +kernel) rfl (Nat.le_of_ble_eq_true rfl) (fun X C hl hb r h => by
  subst hl; subst hb
  exact s_X12_sounds_b0 C a1 a2 a3 a4 a5 S h)
/-! StyleRowsModel.trill(III)V -/
set_option maxRecDepth 100000 in
set_option maxHeartbeats 4000000 in
theorem s_X12_trill_b85 {X : MC} (C : Cx X cX12_trill RX12 wsX12_trill 7 rmX12_trill none) {rec38 : Int32 × St → Option (Unit × St)} (v1 : Int32) (v2 : Int32) (v4 : Int32) (v5 : Int32) (v6 : Int32) (w1 : Int32) (w2 : Int32) (w3 : Int32) (w4 : Int32) (w5 : Int32) (hrec38 : ∀ (s : Int32 × St) (r : Unit × St), rec38 s = some r → G X (QM mkV X r) s.2 38 [(0, .ref (ad X 12)), (1, .int v1), (2, .int v2), (4, .int v4), (5, .int v5), (6, .int (s.1))] []) (S : St) {r0 : Unit × St} (h : f_X12_trill_b85 rec38 v1 v2 v4 v5 v6 w1 w2 w3 w4 w5 S = some r0) : G X (QM mkV X r0) S 85 [(0, .ref (ad X 12)), (1, .int v1), (2, .int v2), (4, .int v4), (5, .int v5), (6, .int v6)] [.int w5, .int w4, .int w3, .int w2, .int w1, .ref (ad X 12)] := by
  unfold f_X12_trill_b85 at h
  refine g_callV (pc := 85) C 12 (c_X12_sounds (Xl X) (Xb X) w1 w2 w3 w4 w5 S) gX12_trill_X12_sounds rfl rfl rfl hd_X12_sounds ⟨Nat.le_of_ble_eq_true rfl, Nat.le_of_ble_eq_true rfl⟩ (w_12 _ _) rfl rfl rfl (Nat.le_of_ble_eq_true rfl) dX12_trill_85 h (fun _u3 S3 h => ?_)
  change G X _ S3 88 [(0, .ref (ad X 12)), (1, .int v1), (2, .int v2), (4, .int v4), (5, .int v5), (6, .int v6)] []
  refine g_iinc (pc := 88) (v := v6 + 1) C [(6, .int (v6 + 1)), (0, .ref (ad X 12)), (1, .int v1), (2, .int v2), (4, .int v4), (5, .int v5)] dX12_trill_88 5 rfl rfl (Nat.le_of_ble_eq_true rfl) rfl ?_
  refine g_goto (pc := 91) (tgt := 38) C dX12_trill_91 (by decide) ?_
  refine g_weak (lv1 := [(0, .ref (ad X 12)), (1, .int v1), (2, .int v2), (4, .int v4), (5, .int v5), (6, .int (v6 + 1))]) [1, 2, 3, 4, 5, 0] rfl ?_
  exact hrec38 (v6 + 1, S3) _ h
set_option maxRecDepth 100000 in
set_option maxHeartbeats 4000000 in
theorem s_X12_trill_b64 {X : MC} (C : Cx X cX12_trill RX12 wsX12_trill 7 rmX12_trill none) {rec38 : Int32 × St → Option (Unit × St)} (v1 : Int32) (v2 : Int32) (v4 : Int32) (v5 : Int32) (v6 : Int32) (w1 : Int32) (w2 : Int32) (w3 : Int32) (hrec38 : ∀ (s : Int32 × St) (r : Unit × St), rec38 s = some r → G X (QM mkV X r) s.2 38 [(0, .ref (ad X 12)), (1, .int v1), (2, .int v2), (4, .int v4), (5, .int v5), (6, .int (s.1))] []) (S : St) {r0 : Unit × St} (h : f_X12_trill_b64 rec38 v1 v2 v4 v5 v6 w1 w2 w3 S = some r0) : G X (QM mkV X r0) S 64 [(0, .ref (ad X 12)), (1, .int v1), (2, .int v2), (4, .int v4), (5, .int v5), (6, .int v6)] [.int w3, .int w2, .int w1, .ref (ad X 12)] := by
  unfold f_X12_trill_b64 at h
  refine g_aload_n (pc := 64) C dX12_trill_64 rfl 0 rfl ?_
  refine g_get (pc := 65) C 12 (w_12 _ _) rfl 34 (Nat.le_of_ble_eq_true rfl) in_X12_X12_trill k230_X12_trill rfl dX12_trill_65 ?_
  refine g_iload (pc := 68) C dX12_trill_68 5 rfl ?_
  refine g_iload (pc := 70) C dX12_trill_70 4 rfl ?_
  refine g_iconst (pc := 72) (v := 1) C dX12_trill_72 (by decide) ?_
  refine g_isub (pc := 73) C dX12_trill_73 ?_
  refine g_icmp_ne (pc := 74) (tgt := 84) C h dX12_trill_74 (by decide) (fun h => ?_) (fun h => ?_)
  · refine g_iload_n (pc := 84) C dX12_trill_84 rfl 2 rfl ?_
    refine g_weak (lv1 := [(0, .ref (ad X 12)), (1, .int v1), (2, .int v2), (4, .int v4), (5, .int v5), (6, .int v6)]) [0, 1, 2, 3, 4, 5] rfl ?_
    exact s_X12_trill_b85 C v1 v2 v4 v5 v6 w1 w2 w3 (gI S 37) v2 hrec38  S h
  · refine g_aload_n (pc := 77) C dX12_trill_77 rfl 0 rfl ?_
    refine g_get (pc := 78) C 12 (w_12 _ _) rfl 33 (Nat.le_of_ble_eq_true rfl) in_X12_X12_trill k215_X12_trill rfl dX12_trill_78 ?_
    refine g_goto (pc := 81) (tgt := 85) C dX12_trill_81 (by decide) ?_
    refine g_weak (lv1 := [(0, .ref (ad X 12)), (1, .int v1), (2, .int v2), (4, .int v4), (5, .int v5), (6, .int v6)]) [0, 1, 2, 3, 4, 5] rfl ?_
    exact s_X12_trill_b85 C v1 v2 v4 v5 v6 w1 w2 w3 (gI S 37) (gI S 36) hrec38  S h
set_option maxRecDepth 100000 in
set_option maxHeartbeats 4000000 in
theorem s_X12_trill_b38 {X : MC} (C : Cx X cX12_trill RX12 wsX12_trill 7 rmX12_trill none) {rec38 : Int32 × St → Option (Unit × St)} (v1 : Int32) (v2 : Int32) (v4 : Int32) (v5 : Int32) (v6 : Int32) (hrec38 : ∀ (s : Int32 × St) (r : Unit × St), rec38 s = some r → G X (QM mkV X r) s.2 38 [(0, .ref (ad X 12)), (1, .int v1), (2, .int v2), (4, .int v4), (5, .int v5), (6, .int (s.1))] []) (S : St) {r0 : Unit × St} (h : f_X12_trill_b38 rec38 v1 v2 v4 v5 v6 S = some r0) : G X (QM mkV X r0) S 38 [(0, .ref (ad X 12)), (1, .int v1), (2, .int v2), (4, .int v4), (5, .int v5), (6, .int v6)] [] := by
  unfold f_X12_trill_b38 at h
  refine g_iload (pc := 38) C dX12_trill_38 5 rfl ?_
  refine g_iload (pc := 40) C dX12_trill_40 4 rfl ?_
  refine g_icmp_ge (pc := 42) (tgt := 94) C h dX12_trill_42 (by decide) (fun h => ?_) (fun h => ?_)
  · exact g_vret (pc := 94) C h dX12_trill_94
  · refine g_aload_n (pc := 45) C dX12_trill_45 rfl 0 rfl ?_
    refine g_iload_n (pc := 46) C dX12_trill_46 rfl 1 rfl ?_
    refine g_iconst (pc := 47) (v := 2) C dX12_trill_47 (by decide) ?_
    refine g_iload (pc := 48) C dX12_trill_48 5 rfl ?_
    refine g_iload (pc := 50) C dX12_trill_50 3 rfl ?_
    refine g_iadd (pc := 52) C dX12_trill_52 ?_
    refine g_iconst (pc := 53) (v := 2) C dX12_trill_53 (by decide) ?_
    refine g_irem (pc := 54) C h dX12_trill_54 (fun h => ?_)
    refine g_iconst (pc := 55) (v := 1) C dX12_trill_55 (by decide) ?_
    refine g_icmp_ne (pc := 56) (tgt := 63) C h dX12_trill_56 (by decide) (fun h => ?_) (fun h => ?_)
    · refine g_iconst (pc := 63) (v := 0) C dX12_trill_63 (by decide) ?_
      refine g_weak (lv1 := [(0, .ref (ad X 12)), (1, .int v1), (2, .int v2), (4, .int v4), (5, .int v5), (6, .int v6)]) [0, 1, 2, 3, 4, 5] rfl ?_
      exact s_X12_trill_b64 C v1 v2 v4 v5 v6 v1 2 0 hrec38  S h
    · refine g_iconst (pc := 59) (v := 2) C dX12_trill_59 (by decide) ?_
      refine g_goto (pc := 60) (tgt := 64) C dX12_trill_60 (by decide) ?_
      refine g_weak (lv1 := [(0, .ref (ad X 12)), (1, .int v1), (2, .int v2), (4, .int v4), (5, .int v5), (6, .int v6)]) [0, 1, 2, 3, 4, 5] rfl ?_
      exact s_X12_trill_b64 C v1 v2 v4 v5 v6 v1 2 2 hrec38  S h
set_option maxRecDepth 100000 in
set_option maxHeartbeats 4000000 in
theorem s_X12_trill_l38 {X : MC} (C : Cx X cX12_trill RX12 wsX12_trill 7 rmX12_trill none) (v1 : Int32) (v2 : Int32) (v4 : Int32) (v5 : Int32) : ∀ (n : Nat) (s : Int32 × St) (r : Unit × St), f_X12_trill_l38 v1 v2 v4 v5 n s = some r → G X (QM mkV X r) s.2 38 [(0, .ref (ad X 12)), (1, .int v1), (2, .int v2), (4, .int v4), (5, .int v5), (6, .int (s.1))] [] :=
  loop_sound (fun rec38 hrec38 s r h => s_X12_trill_b38 C v1 v2 v4 v5 s.1 hrec38 s.2 h)
set_option maxRecDepth 100000 in
set_option maxHeartbeats 4000000 in
theorem s_X12_trill_b33 {X : MC} (C : Cx X cX12_trill RX12 wsX12_trill 7 rmX12_trill none) (v1 : Int32) (v2 : Int32) (v4 : Int32) (w0 : Int32) (S : St) {r0 : Unit × St} (h : f_X12_trill_b33 v1 v2 v4 w0 S = some r0) : G X (QM mkV X r0) S 33 [(0, .ref (ad X 12)), (1, .int v1), (2, .int v2), (4, .int v4)] [.int w0] := by
  unfold f_X12_trill_b33 at h
  refine g_istore (pc := 33) C [(5, .int w0), (0, .ref (ad X 12)), (1, .int v1), (2, .int v2), (4, .int v4)] dX12_trill_33 (Nat.le_of_ble_eq_true rfl) rfl ?_
  refine g_iconst (pc := 35) (v := 0) C dX12_trill_35 (by decide) ?_
  refine g_istore (pc := 36) C [(6, .int 0), (5, .int w0), (0, .ref (ad X 12)), (1, .int v1), (2, .int v2), (4, .int v4)] dX12_trill_36 (Nat.le_of_ble_eq_true rfl) rfl ?_
  refine g_weak (lv1 := [(0, .ref (ad X 12)), (1, .int v1), (2, .int v2), (4, .int v4), (5, .int w0), (6, .int 0)]) [2, 3, 4, 5, 1, 0] rfl ?_
  exact s_X12_trill_l38 C v1 v2 v4 w0 _ (0, S) _ h
set_option maxRecDepth 100000 in
set_option maxHeartbeats 4000000 in
theorem s_X12_trill_b0 {X : MC} (C : Cx X cX12_trill RX12 wsX12_trill 7 rmX12_trill none) (a1 : Int32) (a2 : Int32) (a3 : Int32) (S : St) {r0 : Unit × St} (h : f_X12_trill_b0 a1 a2 a3 S = some r0) : G X (QM mkV X r0) S 0 [(0, .ref (ad X 12)), (1, .int a1), (2, .int a2), (3, .int a3)] [] := by
  unfold f_X12_trill_b0 at h
  refine g_aload_n (pc := 0) C dX12_trill_0 rfl 0 rfl ?_
  refine g_aload_n (pc := 1) C dX12_trill_1 rfl 0 rfl ?_
  refine g_get (pc := 2) C 12 (w_12 _ _) rfl 2 (Nat.le_of_ble_eq_true rfl) in_X12_X12_trill k7_X12_trill rfl dX12_trill_2 ?_
  refine g_iload_n (pc := 5) C dX12_trill_5 rfl 1 rfl ?_
  refine g_iald (pc := 6) C 49 (w_49 _ _) h dX12_trill_6 (fun h => ?_)
  refine g_bipush (pc := 7) (v := 8) C dX12_trill_7 (by decide) ?_
  refine g_callV (pc := 9) C 12 (c_X12_number (Xl X) (Xb X) (rd S 49 a1) 8 S) gX12_trill_X12_number rfl rfl rfl hd_X12_number ⟨Nat.le_of_ble_eq_true rfl, Nat.le_of_ble_eq_true rfl⟩ (w_12 _ _) rfl rfl rfl (Nat.le_of_ble_eq_true rfl) dX12_trill_9 h (fun r2 S1 h => ?_)
  change G X _ S1 12 [(0, .ref (ad X 12)), (1, .int a1), (2, .int a2), (3, .int a3)] [.int r2]
  refine g_istore (pc := 12) C [(4, .int r2), (0, .ref (ad X 12)), (1, .int a1), (2, .int a2), (3, .int a3)] dX12_trill_12 (Nat.le_of_ble_eq_true rfl) rfl ?_
  refine g_iload_n (pc := 14) C dX12_trill_14 rfl 4 rfl ?_
  refine g_iconst (pc := 15) (v := 1) C dX12_trill_15 (by decide) ?_
  refine g_isub (pc := 16) C dX12_trill_16 ?_
  refine g_iload (pc := 17) C dX12_trill_17 0 rfl ?_
  refine g_iadd (pc := 19) C dX12_trill_19 ?_
  refine g_iconst (pc := 20) (v := 2) C dX12_trill_20 (by decide) ?_
  refine g_irem (pc := 21) C h dX12_trill_21 (fun h => ?_)
  refine g_iconst (pc := 22) (v := 1) C dX12_trill_22 (by decide) ?_
  refine g_icmp_ne (pc := 23) (tgt := 32) C h dX12_trill_23 (by decide) (fun h => ?_) (fun h => ?_)
  · refine g_iload_n (pc := 32) C dX12_trill_32 rfl 4 rfl ?_
    refine g_weak (lv1 := [(0, .ref (ad X 12)), (1, .int a1), (2, .int a2), (4, .int r2)]) [1, 2, 3, 0] rfl ?_
    exact s_X12_trill_b33 C a1 a2 r2 a3  S1 h
  · refine g_iload_n (pc := 26) C dX12_trill_26 rfl 4 rfl ?_
    refine g_iconst (pc := 27) (v := 1) C dX12_trill_27 (by decide) ?_
    refine g_isub (pc := 28) C dX12_trill_28 ?_
    refine g_goto (pc := 29) (tgt := 33) C dX12_trill_29 (by decide) ?_
    refine g_weak (lv1 := [(0, .ref (ad X 12)), (1, .int a1), (2, .int a2), (4, .int r2)]) [1, 2, 3, 0] rfl ?_
    exact s_X12_trill_b33 C a1 a2 r2 (a3 - 1)  S1 h
theorem c_X12_trill (l : Launch) (b : Bw) (a1 : Int32) (a2 : Int32) (a3 : Int32) (S : St) : Ct l b yX12_trill wsX12_trill rmX12_trill [.ref (bad b 12), .int a1, .int a2, .int a3] S mkV (f_X12_trill a1 a2 a3 S) := Ct.of (by decide +kernel) rfl (Nat.le_of_ble_eq_true rfl) (fun X C hl hb r h => by
  subst hl; subst hb
  exact s_X12_trill_b0 C a1 a2 a3 S h)
/-! StyleRowsModel.rolledAhead(I)I -/
set_option maxRecDepth 100000 in
set_option maxHeartbeats 4000000 in
theorem s_X12_rolledAhead_b110 {X : MC} (C : Cx X cX12_rolledAhead RX12 wsX12_rolledAhead 5 rmX12_rolledAhead (some .int)) {rec4 : Int32 × Int32 × St → Option (Int32 × St)} (v1 : Int32) (v3 : Int32) (w0 : Int32) (w1 : Int32) (hrec4 : ∀ (s : Int32 × Int32 × St) (r : Int32 × St), rec4 s = some r → G X (QM mkI X r) s.2.2 4 [(0, .ref (ad X 12)), (1, .int v1), (2, .int (s.1)), (3, .int (s.2.1))] []) (S : St) {r0 : Int32 × St} (h : f_X12_rolledAhead_b110 rec4 v1 v3 w0 w1 S = some r0) : G X (QM mkI X r0) S 110 [(0, .ref (ad X 12)), (1, .int v1), (3, .int v3)] [.int w1, .int w0] := by
  unfold f_X12_rolledAhead_b110 at h
  refine g_iadd (pc := 110) C dX12_rolledAhead_110 ?_
  refine g_leti h (fun x1 h => ?_)
  refine g_istore_n (pc := 111) C [(2, .int x1), (0, .ref (ad X 12)), (1, .int v1), (3, .int v3)] dX12_rolledAhead_111 rfl (Nat.le_of_ble_eq_true rfl) rfl ?_
  refine g_iinc (pc := 112) (v := v3 + 1) C [(3, .int (v3 + 1)), (2, .int x1), (0, .ref (ad X 12)), (1, .int v1)] dX12_rolledAhead_112 3 rfl rfl (Nat.le_of_ble_eq_true rfl) rfl ?_
  refine g_goto (pc := 115) (tgt := 4) C dX12_rolledAhead_115 (by decide) ?_
  refine g_weak (lv1 := [(0, .ref (ad X 12)), (1, .int v1), (2, .int x1), (3, .int (v3 + 1))]) [2, 3, 1, 0] rfl ?_
  exact hrec4 (x1, v3 + 1, S) _ h
set_option maxRecDepth 100000 in
set_option maxHeartbeats 4000000 in
theorem s_X12_rolledAhead_b109 {X : MC} (C : Cx X cX12_rolledAhead RX12 wsX12_rolledAhead 5 rmX12_rolledAhead (some .int)) {rec4 : Int32 × Int32 × St → Option (Int32 × St)} (v1 : Int32) (v3 : Int32) (w0 : Int32) (hrec4 : ∀ (s : Int32 × Int32 × St) (r : Int32 × St), rec4 s = some r → G X (QM mkI X r) s.2.2 4 [(0, .ref (ad X 12)), (1, .int v1), (2, .int (s.1)), (3, .int (s.2.1))] []) (S : St) {r0 : Int32 × St} (h : f_X12_rolledAhead_b109 rec4 v1 v3 w0 S = some r0) : G X (QM mkI X r0) S 109 [(0, .ref (ad X 12)), (1, .int v1), (3, .int v3)] [.int w0] := by
  unfold f_X12_rolledAhead_b109 at h
  refine g_iconst (pc := 109) (v := 0) C dX12_rolledAhead_109 (by decide) ?_
  refine g_weak (lv1 := [(0, .ref (ad X 12)), (1, .int v1), (3, .int v3)]) [0, 1, 2] rfl ?_
  exact s_X12_rolledAhead_b110 C v1 v3 w0 0 hrec4  S h
set_option maxRecDepth 100000 in
set_option maxHeartbeats 4000000 in
theorem s_X12_rolledAhead_b105 {X : MC} (C : Cx X cX12_rolledAhead RX12 wsX12_rolledAhead 5 rmX12_rolledAhead (some .int)) {rec4 : Int32 × Int32 × St → Option (Int32 × St)} (v1 : Int32) (v3 : Int32) (w0 : Int32) (hrec4 : ∀ (s : Int32 × Int32 × St) (r : Int32 × St), rec4 s = some r → G X (QM mkI X r) s.2.2 4 [(0, .ref (ad X 12)), (1, .int v1), (2, .int (s.1)), (3, .int (s.2.1))] []) (S : St) {r0 : Int32 × St} (h : f_X12_rolledAhead_b105 rec4 v1 v3 w0 S = some r0) : G X (QM mkI X r0) S 105 [(0, .ref (ad X 12)), (1, .int v1), (3, .int v3)] [.int w0] := by
  unfold f_X12_rolledAhead_b105 at h
  refine g_iconst (pc := 105) (v := 1) C dX12_rolledAhead_105 (by decide) ?_
  refine g_goto (pc := 106) (tgt := 110) C dX12_rolledAhead_106 (by decide) ?_
  refine g_weak (lv1 := [(0, .ref (ad X 12)), (1, .int v1), (3, .int v3)]) [0, 1, 2] rfl ?_
  exact s_X12_rolledAhead_b110 C v1 v3 w0 1 hrec4  S h
set_option maxRecDepth 100000 in
set_option maxHeartbeats 4000000 in
theorem s_X12_rolledAhead_b62 {X : MC} (C : Cx X cX12_rolledAhead RX12 wsX12_rolledAhead 5 rmX12_rolledAhead (some .int)) {rec4 : Int32 × Int32 × St → Option (Int32 × St)} (v1 : Int32) (v2 : Int32) (v3 : Int32) (w0 : Int32) (hrec4 : ∀ (s : Int32 × Int32 × St) (r : Int32 × St), rec4 s = some r → G X (QM mkI X r) s.2.2 4 [(0, .ref (ad X 12)), (1, .int v1), (2, .int (s.1)), (3, .int (s.2.1))] []) (S : St) {r0 : Int32 × St} (h : f_X12_rolledAhead_b62 rec4 v1 v2 v3 w0 S = some r0) : G X (QM mkI X r0) S 62 [(0, .ref (ad X 12)), (1, .int v1), (2, .int v2), (3, .int v3)] [.int w0] := by
  unfold f_X12_rolledAhead_b62 at h
  refine g_istore (pc := 62) C [(4, .int w0), (0, .ref (ad X 12)), (1, .int v1), (2, .int v2), (3, .int v3)] dX12_rolledAhead_62 (Nat.le_of_ble_eq_true rfl) rfl ?_
  refine g_iload_n (pc := 64) C dX12_rolledAhead_64 rfl 3 rfl ?_
  refine g_iload (pc := 65) C dX12_rolledAhead_65 0 rfl ?_
  refine g_if_eq (pc := 67) (tgt := 109) C h dX12_rolledAhead_67 (by decide) (fun h => ?_) (fun h => ?_)
  · refine g_weak (lv1 := [(0, .ref (ad X 12)), (1, .int v1), (3, .int v3)]) [1, 2, 4] rfl ?_
    exact s_X12_rolledAhead_b109 C v1 v3 v2 hrec4  S h
  · refine g_aload_n (pc := 70) C dX12_rolledAhead_70 rfl 1 rfl ?_
    refine g_get (pc := 71) C 12 (w_12 _ _) rfl 5 (Nat.le_of_ble_eq_true rfl) in_X12_X12_rolledAhead k19_X12_rolledAhead rfl dX12_rolledAhead_71 ?_
    refine g_iload_n (pc := 74) C dX12_rolledAhead_74 rfl 4 rfl ?_
    refine g_iald (pc := 75) C 52 (w_52 _ _) h dX12_rolledAhead_75 (fun h => ?_)
    refine g_aload_n (pc := 76) C dX12_rolledAhead_76 rfl 1 rfl ?_
    refine g_get (pc := 77) C 12 (w_12 _ _) rfl 5 (Nat.le_of_ble_eq_true rfl) in_X12_X12_rolledAhead k19_X12_rolledAhead rfl dX12_rolledAhead_77 ?_
    refine g_iload_n (pc := 80) C dX12_rolledAhead_80 rfl 2 rfl ?_
    refine g_iald (pc := 81) C 52 (w_52 _ _) h dX12_rolledAhead_81 (fun h => ?_)
    refine g_icmp_lt (pc := 82) (tgt := 105) C h dX12_rolledAhead_82 (by decide) (fun h => ?_) (fun h => ?_)
    · refine g_weak (lv1 := [(0, .ref (ad X 12)), (1, .int v1), (3, .int v3)]) [1, 2, 4] rfl ?_
      exact s_X12_rolledAhead_b105 C v1 v3 v2 hrec4  S h
    · refine g_aload_n (pc := 85) C dX12_rolledAhead_85 rfl 1 rfl ?_
      refine g_get (pc := 86) C 12 (w_12 _ _) rfl 5 (Nat.le_of_ble_eq_true rfl) in_X12_X12_rolledAhead k19_X12_rolledAhead rfl dX12_rolledAhead_86 ?_
      refine g_iload_n (pc := 89) C dX12_rolledAhead_89 rfl 4 rfl ?_
      refine g_iald (pc := 90) C 52 (w_52 _ _) h dX12_rolledAhead_90 (fun h => ?_)
      refine g_aload_n (pc := 91) C dX12_rolledAhead_91 rfl 1 rfl ?_
      refine g_get (pc := 92) C 12 (w_12 _ _) rfl 5 (Nat.le_of_ble_eq_true rfl) in_X12_X12_rolledAhead k19_X12_rolledAhead rfl dX12_rolledAhead_92 ?_
      refine g_iload_n (pc := 95) C dX12_rolledAhead_95 rfl 2 rfl ?_
      refine g_iald (pc := 96) C 52 (w_52 _ _) h dX12_rolledAhead_96 (fun h => ?_)
      refine g_icmp_ne (pc := 97) (tgt := 109) C h dX12_rolledAhead_97 (by decide) (fun h => ?_) (fun h => ?_)
      · refine g_weak (lv1 := [(0, .ref (ad X 12)), (1, .int v1), (3, .int v3)]) [1, 2, 4] rfl ?_
        exact s_X12_rolledAhead_b109 C v1 v3 v2 hrec4  S h
      · refine g_iload_n (pc := 100) C dX12_rolledAhead_100 rfl 4 rfl ?_
        refine g_iload_n (pc := 101) C dX12_rolledAhead_101 rfl 2 rfl ?_
        refine g_icmp_ge (pc := 102) (tgt := 109) C h dX12_rolledAhead_102 (by decide) (fun h => ?_) (fun h => ?_)
        · refine g_weak (lv1 := [(0, .ref (ad X 12)), (1, .int v1), (3, .int v3)]) [1, 2, 4] rfl ?_
          exact s_X12_rolledAhead_b109 C v1 v3 v2 hrec4  S h
        · refine g_weak (lv1 := [(0, .ref (ad X 12)), (1, .int v1), (3, .int v3)]) [1, 2, 4] rfl ?_
          exact s_X12_rolledAhead_b105 C v1 v3 v2 hrec4  S h
set_option maxRecDepth 100000 in
set_option maxHeartbeats 4000000 in
theorem s_X12_rolledAhead_b61 {X : MC} (C : Cx X cX12_rolledAhead RX12 wsX12_rolledAhead 5 rmX12_rolledAhead (some .int)) {rec4 : Int32 × Int32 × St → Option (Int32 × St)} (v1 : Int32) (v2 : Int32) (v3 : Int32) (hrec4 : ∀ (s : Int32 × Int32 × St) (r : Int32 × St), rec4 s = some r → G X (QM mkI X r) s.2.2 4 [(0, .ref (ad X 12)), (1, .int v1), (2, .int (s.1)), (3, .int (s.2.1))] []) (S : St) {r0 : Int32 × St} (h : f_X12_rolledAhead_b61 rec4 v1 v2 v3 S = some r0) : G X (QM mkI X r0) S 61 [(0, .ref (ad X 12)), (1, .int v1), (2, .int v2), (3, .int v3)] [] := by
  unfold f_X12_rolledAhead_b61 at h
  refine g_iconst (pc := 61) (v := 0) C dX12_rolledAhead_61 (by decide) ?_
  refine g_weak (lv1 := [(0, .ref (ad X 12)), (1, .int v1), (2, .int v2), (3, .int v3)]) [0, 1, 2, 3] rfl ?_
  exact s_X12_rolledAhead_b62 C v1 v2 v3 0 hrec4  S h
set_option maxRecDepth 100000 in
set_option maxHeartbeats 4000000 in
theorem s_X12_rolledAhead_b4 {X : MC} (C : Cx X cX12_rolledAhead RX12 wsX12_rolledAhead 5 rmX12_rolledAhead (some .int)) {rec4 : Int32 × Int32 × St → Option (Int32 × St)} (v1 : Int32) (v2 : Int32) (v3 : Int32) (hrec4 : ∀ (s : Int32 × Int32 × St) (r : Int32 × St), rec4 s = some r → G X (QM mkI X r) s.2.2 4 [(0, .ref (ad X 12)), (1, .int v1), (2, .int (s.1)), (3, .int (s.2.1))] []) (S : St) {r0 : Int32 × St} (h : f_X12_rolledAhead_b4 rec4 v1 v2 v3 S = some r0) : G X (QM mkI X r0) S 4 [(0, .ref (ad X 12)), (1, .int v1), (2, .int v2), (3, .int v3)] [] := by
  unfold f_X12_rolledAhead_b4 at h
  refine g_iload_n (pc := 4) C dX12_rolledAhead_4 rfl 3 rfl ?_
  refine g_aload_n (pc := 5) C dX12_rolledAhead_5 rfl 0 rfl ?_
  refine g_get (pc := 6) C 12 (w_12 _ _) rfl 1 (Nat.le_of_ble_eq_true rfl) in_X12_X12_rolledAhead k92_X12_rolledAhead rfl dX12_rolledAhead_6 ?_
  refine g_icmp_ge (pc := 9) (tgt := 118) C h dX12_rolledAhead_9 (by decide) (fun h => ?_) (fun h => ?_)
  · refine g_iload_n (pc := 118) C dX12_rolledAhead_118 rfl 2 rfl ?_
    exact g_iret (pc := 119) C h dX12_rolledAhead_119
  · refine g_iload_n (pc := 12) C dX12_rolledAhead_12 rfl 3 rfl ?_
    refine g_iload_n (pc := 13) C dX12_rolledAhead_13 rfl 1 rfl ?_
    refine g_icmp_eq (pc := 14) (tgt := 61) C h dX12_rolledAhead_14 (by decide) (fun h => ?_) (fun h => ?_)
    · refine g_weak (lv1 := [(0, .ref (ad X 12)), (1, .int v1), (2, .int v2), (3, .int v3)]) [0, 1, 2, 3] rfl ?_
      exact s_X12_rolledAhead_b61 C v1 v2 v3 hrec4  S h
    · refine g_aload_n (pc := 17) C dX12_rolledAhead_17 rfl 0 rfl ?_
      refine g_iload_n (pc := 18) C dX12_rolledAhead_18 rfl 3 rfl ?_
      refine g_bipush (pc := 19) (v := 64) C dX12_rolledAhead_19 (by decide) ?_
      refine g_callV (pc := 21) C 12 (c_X12_has (Xl X) (Xb X) v3 64 S) gX12_rolledAhead_X12_has rfl rfl rfl hd_X12_has ⟨Nat.le_of_ble_eq_true rfl, Nat.le_of_ble_eq_true rfl⟩ (w_12 _ _) rfl rfl rfl (Nat.le_of_ble_eq_true rfl) dX12_rolledAhead_21 h (fun r3 S2 h => ?_)
      change G X _ S2 24 [(0, .ref (ad X 12)), (1, .int v1), (2, .int v2), (3, .int v3)] [.int r3]
      refine g_if_eq (pc := 24) (tgt := 61) C h dX12_rolledAhead_24 (by decide) (fun h => ?_) (fun h => ?_)
      · refine g_weak (lv1 := [(0, .ref (ad X 12)), (1, .int v1), (2, .int v2), (3, .int v3)]) [0, 1, 2, 3] rfl ?_
        exact s_X12_rolledAhead_b61 C v1 v2 v3 hrec4  S2 h
      · refine g_aload_n (pc := 27) C dX12_rolledAhead_27 rfl 0 rfl ?_
        refine g_get (pc := 28) C 12 (w_12 _ _) rfl 2 (Nat.le_of_ble_eq_true rfl) in_X12_X12_rolledAhead k7_X12_rolledAhead rfl dX12_rolledAhead_28 ?_
        refine g_iload_n (pc := 31) C dX12_rolledAhead_31 rfl 3 rfl ?_
        refine g_iald (pc := 32) C 49 (w_49 _ _) h dX12_rolledAhead_32 (fun h => ?_)
        refine g_aload_n (pc := 33) C dX12_rolledAhead_33 rfl 0 rfl ?_
        refine g_get (pc := 34) C 12 (w_12 _ _) rfl 2 (Nat.le_of_ble_eq_true rfl) in_X12_X12_rolledAhead k7_X12_rolledAhead rfl dX12_rolledAhead_34 ?_
        refine g_iload_n (pc := 37) C dX12_rolledAhead_37 rfl 1 rfl ?_
        refine g_iald (pc := 38) C 49 (w_49 _ _) h dX12_rolledAhead_38 (fun h => ?_)
        refine g_icmp_ne (pc := 39) (tgt := 61) C h dX12_rolledAhead_39 (by decide) (fun h => ?_) (fun h => ?_)
        · refine g_weak (lv1 := [(0, .ref (ad X 12)), (1, .int v1), (2, .int v2), (3, .int v3)]) [0, 1, 2, 3] rfl ?_
          exact s_X12_rolledAhead_b61 C v1 v2 v3 hrec4  S2 h
        · refine g_aload_n (pc := 42) C dX12_rolledAhead_42 rfl 0 rfl ?_
          refine g_get (pc := 43) C 12 (w_12 _ _) rfl 3 (Nat.le_of_ble_eq_true rfl) in_X12_X12_rolledAhead k13_X12_rolledAhead rfl dX12_rolledAhead_43 ?_
          refine g_iload_n (pc := 46) C dX12_rolledAhead_46 rfl 3 rfl ?_
          refine g_iald (pc := 47) C 50 (w_50 _ _) h dX12_rolledAhead_47 (fun h => ?_)
          refine g_aload_n (pc := 48) C dX12_rolledAhead_48 rfl 0 rfl ?_
          refine g_get (pc := 49) C 12 (w_12 _ _) rfl 3 (Nat.le_of_ble_eq_true rfl) in_X12_X12_rolledAhead k13_X12_rolledAhead rfl dX12_rolledAhead_49 ?_
          refine g_iload_n (pc := 52) C dX12_rolledAhead_52 rfl 1 rfl ?_
          refine g_iald (pc := 53) C 50 (w_50 _ _) h dX12_rolledAhead_53 (fun h => ?_)
          refine g_icmp_ne (pc := 54) (tgt := 61) C h dX12_rolledAhead_54 (by decide) (fun h => ?_) (fun h => ?_)
          · refine g_weak (lv1 := [(0, .ref (ad X 12)), (1, .int v1), (2, .int v2), (3, .int v3)]) [0, 1, 2, 3] rfl ?_
            exact s_X12_rolledAhead_b61 C v1 v2 v3 hrec4  S2 h
          · refine g_iconst (pc := 57) (v := 1) C dX12_rolledAhead_57 (by decide) ?_
            refine g_goto (pc := 58) (tgt := 62) C dX12_rolledAhead_58 (by decide) ?_
            refine g_weak (lv1 := [(0, .ref (ad X 12)), (1, .int v1), (2, .int v2), (3, .int v3)]) [0, 1, 2, 3] rfl ?_
            exact s_X12_rolledAhead_b62 C v1 v2 v3 1 hrec4  S2 h
set_option maxRecDepth 100000 in
set_option maxHeartbeats 4000000 in
theorem s_X12_rolledAhead_l4 {X : MC} (C : Cx X cX12_rolledAhead RX12 wsX12_rolledAhead 5 rmX12_rolledAhead (some .int)) (v1 : Int32) : ∀ (n : Nat) (s : Int32 × Int32 × St) (r : Int32 × St), f_X12_rolledAhead_l4 v1 n s = some r → G X (QM mkI X r) s.2.2 4 [(0, .ref (ad X 12)), (1, .int v1), (2, .int (s.1)), (3, .int (s.2.1))] [] :=
  loop_sound (fun rec4 hrec4 s r h => s_X12_rolledAhead_b4 C v1 s.1 s.2.1 hrec4 s.2.2 h)
set_option maxRecDepth 100000 in
set_option maxHeartbeats 4000000 in
theorem s_X12_rolledAhead_b0 {X : MC} (C : Cx X cX12_rolledAhead RX12 wsX12_rolledAhead 5 rmX12_rolledAhead (some .int)) (a1 : Int32) (S : St) {r0 : Int32 × St} (h : f_X12_rolledAhead_b0 a1 S = some r0) : G X (QM mkI X r0) S 0 [(0, .ref (ad X 12)), (1, .int a1)] [] := by
  unfold f_X12_rolledAhead_b0 at h
  refine g_iconst (pc := 0) (v := 0) C dX12_rolledAhead_0 (by decide) ?_
  refine g_istore_n (pc := 1) C [(2, .int 0), (0, .ref (ad X 12)), (1, .int a1)] dX12_rolledAhead_1 rfl (Nat.le_of_ble_eq_true rfl) rfl ?_
  refine g_iconst (pc := 2) (v := 0) C dX12_rolledAhead_2 (by decide) ?_
  refine g_istore_n (pc := 3) C [(3, .int 0), (2, .int 0), (0, .ref (ad X 12)), (1, .int a1)] dX12_rolledAhead_3 rfl (Nat.le_of_ble_eq_true rfl) rfl ?_
  refine g_weak (lv1 := [(0, .ref (ad X 12)), (1, .int a1), (2, .int 0), (3, .int 0)]) [2, 3, 1, 0] rfl ?_
  exact s_X12_rolledAhead_l4 C a1 _ (0, 0, S) _ h
theorem c_X12_rolledAhead (l : Launch) (b : Bw) (a1 : Int32) (S : St) : Ct l b yX12_rolledAhead wsX12_rolledAhead rmX12_rolledAhead [.ref (bad b 12), .int a1] S mkI (f_X12_rolledAhead a1 S) := Ct.of (by decide +kernel) rfl (Nat.le_of_ble_eq_true rfl) (fun X C hl hb r h => by
  subst hl; subst hb
  exact s_X12_rolledAhead_b0 C a1 S h)
/-! StyleRowsModel.performNote(I)V -/
set_option maxRecDepth 100000 in
set_option maxHeartbeats 4000000 in
theorem s_X12_performNote_b299 {X : MC} (C : Cx X cX12_performNote RX12 wsX12_performNote 4 rmX12_performNote none) (S : St) {r0 : Unit × St} (h : f_X12_performNote_b299 S = some r0) : G X (QM mkV X r0) S 299 [] [] := by
  unfold f_X12_performNote_b299 at h
  exact g_vret (pc := 299) C h dX12_performNote_299
set_option maxRecDepth 100000 in
set_option maxHeartbeats 4000000 in
theorem s_X12_performNote_b284 {X : MC} (C : Cx X cX12_performNote RX12 wsX12_performNote 4 rmX12_performNote none) (v1 : Int32) (S : St) {r0 : Unit × St} (h : f_X12_performNote_b284 v1 S = some r0) : G X (QM mkV X r0) S 284 [(0, .ref (ad X 12)), (1, .int v1)] [] := by
  unfold f_X12_performNote_b284 at h
  refine g_aload_n (pc := 284) C dX12_performNote_284 rfl 0 rfl ?_
  refine g_iload_n (pc := 285) C dX12_performNote_285 rfl 1 rfl ?_
  refine g_iconst (pc := 286) (v := 0) C dX12_performNote_286 (by decide) ?_
  refine g_iconst (pc := 287) (v := 0) C dX12_performNote_287 (by decide) ?_
  refine g_aload_n (pc := 288) C dX12_performNote_288 rfl 0 rfl ?_
  refine g_get (pc := 289) C 12 (w_12 _ _) rfl 34 (Nat.le_of_ble_eq_true rfl) in_X12_X12_performNote k230_X12_performNote rfl dX12_performNote_289 ?_
  refine g_aload_n (pc := 292) C dX12_performNote_292 rfl 0 rfl ?_
  refine g_get (pc := 293) C 12 (w_12 _ _) rfl 33 (Nat.le_of_ble_eq_true rfl) in_X12_X12_performNote k215_X12_performNote rfl dX12_performNote_293 ?_
  refine g_callV (pc := 296) C 12 (c_X12_sounds (Xl X) (Xb X) v1 0 0 (gI S 37) (gI S 36) S) gX12_performNote_X12_sounds rfl rfl rfl hd_X12_sounds ⟨Nat.le_of_ble_eq_true rfl, Nat.le_of_ble_eq_true rfl⟩ (w_12 _ _) rfl rfl rfl (Nat.le_of_ble_eq_true rfl) dX12_performNote_296 h (fun _u20 S20 h => ?_)
  change G X _ S20 299 [(0, .ref (ad X 12)), (1, .int v1)] []
  refine g_weak (lv1 := []) [] rfl ?_
  exact s_X12_performNote_b299 C   S20 h
set_option maxRecDepth 100000 in
set_option maxHeartbeats 4000000 in
theorem s_X12_performNote_b201 {X : MC} (C : Cx X cX12_performNote RX12 wsX12_performNote 4 rmX12_performNote none) (v1 : Int32) (S : St) {r0 : Unit × St} (h : f_X12_performNote_b201 v1 S = some r0) : G X (QM mkV X r0) S 201 [(0, .ref (ad X 12)), (1, .int v1)] [] := by
  unfold f_X12_performNote_b201 at h
  refine g_aload_n (pc := 201) C dX12_performNote_201 rfl 0 rfl ?_
  refine g_iload_n (pc := 202) C dX12_performNote_202 rfl 1 rfl ?_
  refine g_bipush (pc := 203) (v := 16) C dX12_performNote_203 (by decide) ?_
  refine g_callV (pc := 205) C 12 (c_X12_has (Xl X) (Xb X) v1 16 S) gX12_performNote_X12_has rfl rfl rfl hd_X12_has ⟨Nat.le_of_ble_eq_true rfl, Nat.le_of_ble_eq_true rfl⟩ (w_12 _ _) rfl rfl rfl (Nat.le_of_ble_eq_true rfl) dX12_performNote_205 h (fun r19 S18 h => ?_)
  change G X _ S18 208 [(0, .ref (ad X 12)), (1, .int v1)] [.int r19]
  refine g_if_eq (pc := 208) (tgt := 284) C h dX12_performNote_208 (by decide) (fun h => ?_) (fun h => ?_)
  · refine g_weak (lv1 := [(0, .ref (ad X 12)), (1, .int v1)]) [0, 1] rfl ?_
    exact s_X12_performNote_b284 C v1  S18 h
  · refine g_aload_n (pc := 211) C dX12_performNote_211 rfl 0 rfl ?_
    refine g_get (pc := 212) C 12 (w_12 _ _) rfl 33 (Nat.le_of_ble_eq_true rfl) in_X12_X12_performNote k215_X12_performNote rfl dX12_performNote_212 ?_
    refine g_iconst (pc := 215) (v := 3) C dX12_performNote_215 (by decide) ?_
    refine g_icmp_lt (pc := 216) (tgt := 284) C h dX12_performNote_216 (by decide) (fun h => ?_) (fun h => ?_)
    · refine g_weak (lv1 := [(0, .ref (ad X 12)), (1, .int v1)]) [0, 1] rfl ?_
      exact s_X12_performNote_b284 C v1  S18 h
    · refine g_aload_n (pc := 219) C dX12_performNote_219 rfl 0 rfl ?_
      refine g_aload_n (pc := 220) C dX12_performNote_220 rfl 0 rfl ?_
      refine g_get (pc := 221) C 12 (w_12 _ _) rfl 2 (Nat.le_of_ble_eq_true rfl) in_X12_X12_performNote k7_X12_performNote rfl dX12_performNote_221 ?_
      refine g_iload_n (pc := 224) C dX12_performNote_224 rfl 1 rfl ?_
      refine g_iald (pc := 225) C 49 (w_49 _ _) h dX12_performNote_225 (fun h => ?_)
      refine g_bipush (pc := 226) (v := 9) C dX12_performNote_226 (by decide) ?_
      refine g_callV (pc := 228) C 12 (c_X12_number (Xl X) (Xb X) (rd S18 49 v1) 9 S18) gX12_performNote_X12_number rfl rfl rfl hd_X12_number ⟨Nat.le_of_ble_eq_true rfl, Nat.le_of_ble_eq_true rfl⟩ (w_12 _ _) rfl rfl rfl (Nat.le_of_ble_eq_true rfl) dX12_performNote_228 h (fun r22 S21 h => ?_)
      change G X _ S21 231 [(0, .ref (ad X 12)), (1, .int v1)] [.int r22]
      refine g_aload_n (pc := 231) C dX12_performNote_231 rfl 0 rfl ?_
      refine g_get (pc := 232) C 12 (w_12 _ _) rfl 33 (Nat.le_of_ble_eq_true rfl) in_X12_X12_performNote k215_X12_performNote rfl dX12_performNote_232 ?_
      refine g_iconst (pc := 235) (v := 3) C dX12_performNote_235 (by decide) ?_
      refine g_idiv (pc := 236) C h dX12_performNote_236 (fun h => ?_)
      refine g_callS (pc := 237) C (c_X12_lesser (Xl X) (Xb X) r22 ((gI S21 36) / 3) S21) gX12_performNote_X12_lesser rfl rfl rfl hd_X12_lesser ⟨Nat.le_of_ble_eq_true rfl, Nat.le_of_ble_eq_true rfl⟩ rfl rfl (Nat.le_of_ble_eq_true rfl) dX12_performNote_237 h (fun r24 S23 h => ?_)
      change G X _ S23 240 [(0, .ref (ad X 12)), (1, .int v1)] [.int r24]
      refine g_istore_n (pc := 240) C [(3, .int r24), (0, .ref (ad X 12)), (1, .int v1)] dX12_performNote_240 rfl (Nat.le_of_ble_eq_true rfl) rfl ?_
      refine g_aload_n (pc := 241) C dX12_performNote_241 rfl 1 rfl ?_
      refine g_iload_n (pc := 242) C dX12_performNote_242 rfl 2 rfl ?_
      refine g_iconst (pc := 243) (v := 3) C dX12_performNote_243 (by decide) ?_
      refine g_iconst (pc := 244) (v := 0) C dX12_performNote_244 (by decide) ?_
      refine g_aload_n (pc := 245) C dX12_performNote_245 rfl 1 rfl ?_
      refine g_get (pc := 246) C 12 (w_12 _ _) rfl 34 (Nat.le_of_ble_eq_true rfl) in_X12_X12_performNote k230_X12_performNote rfl dX12_performNote_246 ?_
      refine g_iload_n (pc := 249) C dX12_performNote_249 rfl 0 rfl ?_
      refine g_callV (pc := 250) C 12 (c_X12_sounds (Xl X) (Xb X) v1 3 0 (gI S23 37) r24 S23) gX12_performNote_X12_sounds rfl rfl rfl hd_X12_sounds ⟨Nat.le_of_ble_eq_true rfl, Nat.le_of_ble_eq_true rfl⟩ (w_12 _ _) rfl rfl rfl (Nat.le_of_ble_eq_true rfl) dX12_performNote_250 h (fun _u25 S25 h => ?_)
      change G X _ S25 253 [(3, .int r24), (0, .ref (ad X 12)), (1, .int v1)] []
      refine g_aload_n (pc := 253) C dX12_performNote_253 rfl 1 rfl ?_
      refine g_iload_n (pc := 254) C dX12_performNote_254 rfl 2 rfl ?_
      refine g_iconst (pc := 255) (v := 3) C dX12_performNote_255 (by decide) ?_
      refine g_bipush (pc := 256) (v := (-2)) C dX12_performNote_256 (by decide) ?_
      refine g_aload_n (pc := 258) C dX12_performNote_258 rfl 1 rfl ?_
      refine g_get (pc := 259) C 12 (w_12 _ _) rfl 34 (Nat.le_of_ble_eq_true rfl) in_X12_X12_performNote k230_X12_performNote rfl dX12_performNote_259 ?_
      refine g_iload_n (pc := 262) C dX12_performNote_262 rfl 0 rfl ?_
      refine g_callV (pc := 263) C 12 (c_X12_sounds (Xl X) (Xb X) v1 3 (-2) (gI S25 37) r24 S25) gX12_performNote_X12_sounds rfl rfl rfl hd_X12_sounds ⟨Nat.le_of_ble_eq_true rfl, Nat.le_of_ble_eq_true rfl⟩ (w_12 _ _) rfl rfl rfl (Nat.le_of_ble_eq_true rfl) dX12_performNote_263 h (fun _u26 S26 h => ?_)
      change G X _ S26 266 [(3, .int r24), (0, .ref (ad X 12)), (1, .int v1)] []
      refine g_aload_n (pc := 266) C dX12_performNote_266 rfl 1 rfl ?_
      refine g_iload_n (pc := 267) C dX12_performNote_267 rfl 2 rfl ?_
      refine g_iconst (pc := 268) (v := 3) C dX12_performNote_268 (by decide) ?_
      refine g_iconst (pc := 269) (v := 0) C dX12_performNote_269 (by decide) ?_
      refine g_aload_n (pc := 270) C dX12_performNote_270 rfl 1 rfl ?_
      refine g_get (pc := 271) C 12 (w_12 _ _) rfl 34 (Nat.le_of_ble_eq_true rfl) in_X12_X12_performNote k230_X12_performNote rfl dX12_performNote_271 ?_
      refine g_aload_n (pc := 274) C dX12_performNote_274 rfl 1 rfl ?_
      refine g_get (pc := 275) C 12 (w_12 _ _) rfl 33 (Nat.le_of_ble_eq_true rfl) in_X12_X12_performNote k215_X12_performNote rfl dX12_performNote_275 ?_
      refine g_callV (pc := 278) C 12 (c_X12_sounds (Xl X) (Xb X) v1 3 0 (gI S26 37) (gI S26 36) S26) gX12_performNote_X12_sounds rfl rfl rfl hd_X12_sounds ⟨Nat.le_of_ble_eq_true rfl, Nat.le_of_ble_eq_true rfl⟩ (w_12 _ _) rfl rfl rfl (Nat.le_of_ble_eq_true rfl) dX12_performNote_278 h (fun _u27 S27 h => ?_)
      change G X _ S27 281 [(3, .int r24), (0, .ref (ad X 12)), (1, .int v1)] []
      refine g_goto (pc := 281) (tgt := 299) C dX12_performNote_281 (by decide) ?_
      refine g_weak (lv1 := []) [] rfl ?_
      exact s_X12_performNote_b299 C   S27 h
set_option maxRecDepth 100000 in
set_option maxHeartbeats 4000000 in
theorem s_X12_performNote_b153 {X : MC} (C : Cx X cX12_performNote RX12 wsX12_performNote 4 rmX12_performNote none) (v1 : Int32) (S : St) {r0 : Unit × St} (h : f_X12_performNote_b153 v1 S = some r0) : G X (QM mkV X r0) S 153 [(0, .ref (ad X 12)), (1, .int v1)] [] := by
  unfold f_X12_performNote_b153 at h
  refine g_aload_n (pc := 153) C dX12_performNote_153 rfl 0 rfl ?_
  refine g_aload_n (pc := 154) C dX12_performNote_154 rfl 0 rfl ?_
  refine g_get (pc := 155) C 12 (w_12 _ _) rfl 2 (Nat.le_of_ble_eq_true rfl) in_X12_X12_performNote k7_X12_performNote rfl dX12_performNote_155 ?_
  refine g_iload_n (pc := 158) C dX12_performNote_158 rfl 1 rfl ?_
  refine g_iald (pc := 159) C 49 (w_49 _ _) h dX12_performNote_159 (fun h => ?_)
  refine g_bipush (pc := 160) (v := 7) C dX12_performNote_160 (by decide) ?_
  refine g_callV (pc := 162) C 12 (c_X12_number (Xl X) (Xb X) (rd S 49 v1) 7 S) gX12_performNote_X12_number rfl rfl rfl hd_X12_number ⟨Nat.le_of_ble_eq_true rfl, Nat.le_of_ble_eq_true rfl⟩ (w_12 _ _) rfl rfl rfl (Nat.le_of_ble_eq_true rfl) dX12_performNote_162 h (fun r15 S14 h => ?_)
  change G X _ S14 165 [(0, .ref (ad X 12)), (1, .int v1)] [.int r15]
  refine g_istore_n (pc := 165) C [(2, .int r15), (0, .ref (ad X 12)), (1, .int v1)] dX12_performNote_165 rfl (Nat.le_of_ble_eq_true rfl) rfl ?_
  refine g_aload_n (pc := 166) C dX12_performNote_166 rfl 1 rfl ?_
  refine g_iload_n (pc := 167) C dX12_performNote_167 rfl 2 rfl ?_
  refine g_bipush (pc := 168) (v := 8) C dX12_performNote_168 (by decide) ?_
  refine g_callV (pc := 170) C 12 (c_X12_has (Xl X) (Xb X) v1 8 S14) gX12_performNote_X12_has rfl rfl rfl hd_X12_has ⟨Nat.le_of_ble_eq_true rfl, Nat.le_of_ble_eq_true rfl⟩ (w_12 _ _) rfl rfl rfl (Nat.le_of_ble_eq_true rfl) dX12_performNote_170 h (fun r17 S16 h => ?_)
  change G X _ S16 173 [(2, .int r15), (0, .ref (ad X 12)), (1, .int v1)] [.int r17]
  refine g_if_eq (pc := 173) (tgt := 201) C h dX12_performNote_173 (by decide) (fun h => ?_) (fun h => ?_)
  · refine g_weak (lv1 := [(0, .ref (ad X 12)), (1, .int v1)]) [1, 2] rfl ?_
    exact s_X12_performNote_b201 C v1  S16 h
  · refine g_aload_n (pc := 176) C dX12_performNote_176 rfl 1 rfl ?_
    refine g_get (pc := 177) C 12 (w_12 _ _) rfl 33 (Nat.le_of_ble_eq_true rfl) in_X12_X12_performNote k215_X12_performNote rfl dX12_performNote_177 ?_
    refine g_iload_n (pc := 180) C dX12_performNote_180 rfl 0 rfl ?_
    refine g_idiv (pc := 181) C h dX12_performNote_181 (fun h => ?_)
    refine g_iconst (pc := 182) (v := 2) C dX12_performNote_182 (by decide) ?_
    refine g_icmp_lt (pc := 183) (tgt := 201) C h dX12_performNote_183 (by decide) (fun h => ?_) (fun h => ?_)
    · refine g_weak (lv1 := [(0, .ref (ad X 12)), (1, .int v1)]) [1, 2] rfl ?_
      exact s_X12_performNote_b201 C v1  S16 h
    · refine g_aload_n (pc := 186) C dX12_performNote_186 rfl 1 rfl ?_
      refine g_iload_n (pc := 187) C dX12_performNote_187 rfl 2 rfl ?_
      refine g_iload_n (pc := 188) C dX12_performNote_188 rfl 0 rfl ?_
      refine g_aload_n (pc := 189) C dX12_performNote_189 rfl 1 rfl ?_
      refine g_get (pc := 190) C 12 (w_12 _ _) rfl 33 (Nat.le_of_ble_eq_true rfl) in_X12_X12_performNote k215_X12_performNote rfl dX12_performNote_190 ?_
      refine g_iload_n (pc := 193) C dX12_performNote_193 rfl 0 rfl ?_
      refine g_idiv (pc := 194) C h dX12_performNote_194 (fun h => ?_)
      refine g_callV (pc := 195) C 12 (c_X12_trill (Xl X) (Xb X) v1 r15 ((gI S16 36) / r15) S16) gX12_performNote_X12_trill rfl rfl rfl hd_X12_trill ⟨Nat.le_of_ble_eq_true rfl, Nat.le_of_ble_eq_true rfl⟩ (w_12 _ _) rfl rfl rfl (Nat.le_of_ble_eq_true rfl) dX12_performNote_195 h (fun _u28 S28 h => ?_)
      change G X _ S28 198 [(2, .int r15), (0, .ref (ad X 12)), (1, .int v1)] []
      refine g_goto (pc := 198) (tgt := 299) C dX12_performNote_198 (by decide) ?_
      refine g_weak (lv1 := []) [] rfl ?_
      exact s_X12_performNote_b299 C   S28 h
set_option maxRecDepth 100000 in
set_option maxHeartbeats 4000000 in
theorem s_X12_performNote_b149 {X : MC} (C : Cx X cX12_performNote RX12 wsX12_performNote 4 rmX12_performNote none) (v1 : Int32) (v2 : Int32) (w1 : Int32) (w2 : Int32) (w3 : Int32) (w4 : Int32) (S : St) {r0 : Unit × St} (h : f_X12_performNote_b149 v1 v2 w1 w2 w3 w4 S = some r0) : G X (QM mkV X r0) S 149 [(0, .ref (ad X 12)), (1, .int v1), (2, .int v2)] [.int w4, .int w3, .int w2, .int w1, .ref (ad X 12)] := by
  unfold f_X12_performNote_b149 at h
  refine g_iload_n (pc := 149) C dX12_performNote_149 rfl 2 rfl ?_
  refine g_callV (pc := 150) C 12 (c_X12_sounds (Xl X) (Xb X) w1 w2 w3 w4 v2 S) gX12_performNote_X12_sounds rfl rfl rfl hd_X12_sounds ⟨Nat.le_of_ble_eq_true rfl, Nat.le_of_ble_eq_true rfl⟩ (w_12 _ _) rfl rfl rfl (Nat.le_of_ble_eq_true rfl) dX12_performNote_150 h (fun _u33 S33 h => ?_)
  change G X _ S33 153 [(0, .ref (ad X 12)), (1, .int v1), (2, .int v2)] []
  refine g_weak (lv1 := [(0, .ref (ad X 12)), (1, .int v1)]) [0, 1] rfl ?_
  exact s_X12_performNote_b153 C v1  S33 h
set_option maxRecDepth 100000 in
set_option maxHeartbeats 4000000 in
theorem s_X12_performNote_b85 {X : MC} (C : Cx X cX12_performNote RX12 wsX12_performNote 4 rmX12_performNote none) (v1 : Int32) (S : St) {r0 : Unit × St} (h : f_X12_performNote_b85 v1 S = some r0) : G X (QM mkV X r0) S 85 [(0, .ref (ad X 12)), (1, .int v1)] [] := by
  unfold f_X12_performNote_b85 at h
  refine g_aload_n (pc := 85) C dX12_performNote_85 rfl 0 rfl ?_
  refine g_iload_n (pc := 86) C dX12_performNote_86 rfl 1 rfl ?_
  refine g_bipush (pc := 87) (v := 32) C dX12_performNote_87 (by decide) ?_
  refine g_callV (pc := 89) C 12 (c_X12_has (Xl X) (Xb X) v1 32 S) gX12_performNote_X12_has rfl rfl rfl hd_X12_has ⟨Nat.le_of_ble_eq_true rfl, Nat.le_of_ble_eq_true rfl⟩ (w_12 _ _) rfl rfl rfl (Nat.le_of_ble_eq_true rfl) dX12_performNote_89 h (fun r13 S12 h => ?_)
  change G X _ S12 92 [(0, .ref (ad X 12)), (1, .int v1)] [.int r13]
  refine g_if_eq (pc := 92) (tgt := 153) C h dX12_performNote_92 (by decide) (fun h => ?_) (fun h => ?_)
  · refine g_weak (lv1 := [(0, .ref (ad X 12)), (1, .int v1)]) [0, 1] rfl ?_
    exact s_X12_performNote_b153 C v1  S12 h
  · refine g_aload_n (pc := 95) C dX12_performNote_95 rfl 0 rfl ?_
    refine g_aload_n (pc := 96) C dX12_performNote_96 rfl 0 rfl ?_
    refine g_get (pc := 97) C 12 (w_12 _ _) rfl 2 (Nat.le_of_ble_eq_true rfl) in_X12_X12_performNote k7_X12_performNote rfl dX12_performNote_97 ?_
    refine g_iload_n (pc := 100) C dX12_performNote_100 rfl 1 rfl ?_
    refine g_iald (pc := 101) C 49 (w_49 _ _) h dX12_performNote_101 (fun h => ?_)
    refine g_bipush (pc := 102) (v := 10) C dX12_performNote_102 (by decide) ?_
    refine g_callV (pc := 104) C 12 (c_X12_number (Xl X) (Xb X) (rd S12 49 v1) 10 S12) gX12_performNote_X12_number rfl rfl rfl hd_X12_number ⟨Nat.le_of_ble_eq_true rfl, Nat.le_of_ble_eq_true rfl⟩ (w_12 _ _) rfl rfl rfl (Nat.le_of_ble_eq_true rfl) dX12_performNote_104 h (fun r30 S29 h => ?_)
    change G X _ S29 107 [(0, .ref (ad X 12)), (1, .int v1)] [.int r30]
    refine g_aload_n (pc := 107) C dX12_performNote_107 rfl 0 rfl ?_
    refine g_get (pc := 108) C 12 (w_12 _ _) rfl 33 (Nat.le_of_ble_eq_true rfl) in_X12_X12_performNote k215_X12_performNote rfl dX12_performNote_108 ?_
    refine g_iconst (pc := 111) (v := 2) C dX12_performNote_111 (by decide) ?_
    refine g_idiv (pc := 112) C h dX12_performNote_112 (fun h => ?_)
    refine g_callS (pc := 113) C (c_X12_lesser (Xl X) (Xb X) r30 ((gI S29 36) / 2) S29) gX12_performNote_X12_lesser rfl rfl rfl hd_X12_lesser ⟨Nat.le_of_ble_eq_true rfl, Nat.le_of_ble_eq_true rfl⟩ rfl rfl (Nat.le_of_ble_eq_true rfl) dX12_performNote_113 h (fun r32 S31 h => ?_)
    change G X _ S31 116 [(0, .ref (ad X 12)), (1, .int v1)] [.int r32]
    refine g_istore_n (pc := 116) C [(2, .int r32), (0, .ref (ad X 12)), (1, .int v1)] dX12_performNote_116 rfl (Nat.le_of_ble_eq_true rfl) rfl ?_
    refine g_iload_n (pc := 117) C dX12_performNote_117 rfl 0 rfl ?_
    refine g_if_le (pc := 118) (tgt := 153) C h dX12_performNote_118 (by decide) (fun h => ?_) (fun h => ?_)
    · refine g_weak (lv1 := [(0, .ref (ad X 12)), (1, .int v1)]) [1, 2] rfl ?_
      exact s_X12_performNote_b153 C v1  S31 h
    · refine g_aload_n (pc := 121) C dX12_performNote_121 rfl 1 rfl ?_
      refine g_iload_n (pc := 122) C dX12_performNote_122 rfl 2 rfl ?_
      refine g_iconst (pc := 123) (v := 1) C dX12_performNote_123 (by decide) ?_
      refine g_iconst (pc := 124) (v := 2) C dX12_performNote_124 (by decide) ?_
      refine g_aload_n (pc := 125) C dX12_performNote_125 rfl 1 rfl ?_
      refine g_get (pc := 126) C 12 (w_12 _ _) rfl 34 (Nat.le_of_ble_eq_true rfl) in_X12_X12_performNote k230_X12_performNote rfl dX12_performNote_126 ?_
      refine g_iconst (pc := 129) (v := 3) C dX12_performNote_129 (by decide) ?_
      refine g_imul (pc := 130) C dX12_performNote_130 ?_
      refine g_iconst (pc := 131) (v := 4) C dX12_performNote_131 (by decide) ?_
      refine g_idiv (pc := 132) C h dX12_performNote_132 (fun h => ?_)
      refine g_iconst (pc := 133) (v := 1) C dX12_performNote_133 (by decide) ?_
      refine g_icmp_ge (pc := 134) (tgt := 141) C h dX12_performNote_134 (by decide) (fun h => ?_) (fun h => ?_)
      · refine g_aload_n (pc := 141) C dX12_performNote_141 rfl 1 rfl ?_
        refine g_get (pc := 142) C 12 (w_12 _ _) rfl 34 (Nat.le_of_ble_eq_true rfl) in_X12_X12_performNote k230_X12_performNote rfl dX12_performNote_142 ?_
        refine g_iconst (pc := 145) (v := 3) C dX12_performNote_145 (by decide) ?_
        refine g_imul (pc := 146) C dX12_performNote_146 ?_
        refine g_iconst (pc := 147) (v := 4) C dX12_performNote_147 (by decide) ?_
        refine g_idiv (pc := 148) C h dX12_performNote_148 (fun h => ?_)
        refine g_weak (lv1 := [(0, .ref (ad X 12)), (1, .int v1), (2, .int r32)]) [1, 2, 0] rfl ?_
        exact s_X12_performNote_b149 C v1 r32 v1 1 2 (((gI S31 37) * 3) / 4)  S31 h
      · refine g_iconst (pc := 137) (v := 1) C dX12_performNote_137 (by decide) ?_
        refine g_goto (pc := 138) (tgt := 149) C dX12_performNote_138 (by decide) ?_
        refine g_weak (lv1 := [(0, .ref (ad X 12)), (1, .int v1), (2, .int r32)]) [1, 2, 0] rfl ?_
        exact s_X12_performNote_b149 C v1 r32 v1 1 2 1  S31 h
set_option maxRecDepth 100000 in
set_option maxHeartbeats 4000000 in
theorem s_X12_performNote_b0 {X : MC} (C : Cx X cX12_performNote RX12 wsX12_performNote 4 rmX12_performNote none) (a1 : Int32) (S : St) {r0 : Unit × St} (h : f_X12_performNote_b0 a1 S = some r0) : G X (QM mkV X r0) S 0 [(0, .ref (ad X 12)), (1, .int a1)] [] := by
  unfold f_X12_performNote_b0 at h
  refine g_aload_n (pc := 0) C dX12_performNote_0 rfl 0 rfl ?_
  refine g_aload_n (pc := 1) C dX12_performNote_1 rfl 0 rfl ?_
  refine g_iload_n (pc := 2) C dX12_performNote_2 rfl 1 rfl ?_
  refine g_callV (pc := 3) C 12 (c_X12_onOf (Xl X) (Xb X) a1 S) gX12_performNote_X12_onOf rfl rfl rfl hd_X12_onOf ⟨Nat.le_of_ble_eq_true rfl, Nat.le_of_ble_eq_true rfl⟩ (w_12 _ _) rfl rfl rfl (Nat.le_of_ble_eq_true rfl) dX12_performNote_3 h (fun r2 S1 h => ?_)
  change G X _ S1 6 [(0, .ref (ad X 12)), (1, .int a1)] [.int r2, .ref (ad X 12)]
  refine g_put (pc := 6) C 12 (w_12 _ _) rfl 32 (Nat.le_of_ble_eq_true rfl) in_X12_X12_performNote tyX12_ok nmX12 k212_X12_performNote rfl rfl rfl (Nat.le_of_ble_eq_true rfl) (ws_12_32 _ _ _) dX12_performNote_6 h (fun S3 h => ?_)
  refine g_aload_n (pc := 9) C dX12_performNote_9 rfl 0 rfl ?_
  refine g_aload_n (pc := 10) C dX12_performNote_10 rfl 0 rfl ?_
  refine g_iload_n (pc := 11) C dX12_performNote_11 rfl 1 rfl ?_
  refine g_callV (pc := 12) C 12 (c_X12_longOf (Xl X) (Xb X) a1 S3) gX12_performNote_X12_longOf rfl rfl rfl hd_X12_longOf ⟨Nat.le_of_ble_eq_true rfl, Nat.le_of_ble_eq_true rfl⟩ (w_12 _ _) rfl rfl rfl (Nat.le_of_ble_eq_true rfl) dX12_performNote_12 h (fun r5 S4 h => ?_)
  change G X _ S4 15 [(0, .ref (ad X 12)), (1, .int a1)] [.int r5, .ref (ad X 12)]
  refine g_put (pc := 15) C 12 (w_12 _ _) rfl 33 (Nat.le_of_ble_eq_true rfl) in_X12_X12_performNote tyX12_ok nmX12 k215_X12_performNote rfl rfl rfl (Nat.le_of_ble_eq_true rfl) (ws_12_33 _ _ _) dX12_performNote_15 h (fun S6 h => ?_)
  refine g_aload_n (pc := 18) C dX12_performNote_18 rfl 0 rfl ?_
  refine g_aload_n (pc := 19) C dX12_performNote_19 rfl 0 rfl ?_
  refine g_iload_n (pc := 20) C dX12_performNote_20 rfl 1 rfl ?_
  refine g_callV (pc := 21) C 12 (c_X12_loudOf (Xl X) (Xb X) a1 S6) gX12_performNote_X12_loudOf rfl rfl rfl hd_X12_loudOf ⟨Nat.le_of_ble_eq_true rfl, Nat.le_of_ble_eq_true rfl⟩ (w_12 _ _) rfl rfl rfl (Nat.le_of_ble_eq_true rfl) dX12_performNote_21 h (fun r8 S7 h => ?_)
  change G X _ S7 24 [(0, .ref (ad X 12)), (1, .int a1)] [.int r8, .ref (ad X 12)]
  refine g_put (pc := 24) C 12 (w_12 _ _) rfl 34 (Nat.le_of_ble_eq_true rfl) in_X12_X12_performNote tyX12_ok nmX12 k230_X12_performNote rfl rfl rfl (Nat.le_of_ble_eq_true rfl) (ws_12_34 _ _ _) dX12_performNote_24 h (fun S9 h => ?_)
  refine g_aload_n (pc := 27) C dX12_performNote_27 rfl 0 rfl ?_
  refine g_iload_n (pc := 28) C dX12_performNote_28 rfl 1 rfl ?_
  refine g_bipush (pc := 29) (v := 64) C dX12_performNote_29 (by decide) ?_
  refine g_callV (pc := 31) C 12 (c_X12_has (Xl X) (Xb X) a1 64 S9) gX12_performNote_X12_has rfl rfl rfl hd_X12_has ⟨Nat.le_of_ble_eq_true rfl, Nat.le_of_ble_eq_true rfl⟩ (w_12 _ _) rfl rfl rfl (Nat.le_of_ble_eq_true rfl) dX12_performNote_31 h (fun r11 S10 h => ?_)
  change G X _ S10 34 [(0, .ref (ad X 12)), (1, .int a1)] [.int r11]
  refine g_if_eq (pc := 34) (tgt := 85) C h dX12_performNote_34 (by decide) (fun h => ?_) (fun h => ?_)
  · refine g_weak (lv1 := [(0, .ref (ad X 12)), (1, .int a1)]) [0, 1] rfl ?_
    exact s_X12_performNote_b85 C a1  S10 h
  · refine g_aload_n (pc := 37) C dX12_performNote_37 rfl 0 rfl ?_
    refine g_iload_n (pc := 38) C dX12_performNote_38 rfl 1 rfl ?_
    refine g_callV (pc := 39) C 12 (c_X12_rolledAhead (Xl X) (Xb X) a1 S10) gX12_performNote_X12_rolledAhead rfl rfl rfl hd_X12_rolledAhead ⟨Nat.le_of_ble_eq_true rfl, Nat.le_of_ble_eq_true rfl⟩ (w_12 _ _) rfl rfl rfl (Nat.le_of_ble_eq_true rfl) dX12_performNote_39 h (fun r35 S34 h => ?_)
    change G X _ S34 42 [(0, .ref (ad X 12)), (1, .int a1)] [.int r35]
    refine g_aload_n (pc := 42) C dX12_performNote_42 rfl 0 rfl ?_
    refine g_aload_n (pc := 43) C dX12_performNote_43 rfl 0 rfl ?_
    refine g_get (pc := 44) C 12 (w_12 _ _) rfl 2 (Nat.le_of_ble_eq_true rfl) in_X12_X12_performNote k7_X12_performNote rfl dX12_performNote_44 ?_
    refine g_iload_n (pc := 47) C dX12_performNote_47 rfl 1 rfl ?_
    refine g_iald (pc := 48) C 49 (w_49 _ _) h dX12_performNote_48 (fun h => ?_)
    refine g_bipush (pc := 49) (v := 11) C dX12_performNote_49 (by decide) ?_
    refine g_callV (pc := 51) C 12 (c_X12_number (Xl X) (Xb X) (rd S34 49 a1) 11 S34) gX12_performNote_X12_number rfl rfl rfl hd_X12_number ⟨Nat.le_of_ble_eq_true rfl, Nat.le_of_ble_eq_true rfl⟩ (w_12 _ _) rfl rfl rfl (Nat.le_of_ble_eq_true rfl) dX12_performNote_51 h (fun r37 S36 h => ?_)
    change G X _ S36 54 [(0, .ref (ad X 12)), (1, .int a1)] [.int r37, .int r35]
    refine g_imul (pc := 54) C dX12_performNote_54 ?_
    refine g_aload_n (pc := 55) C dX12_performNote_55 rfl 0 rfl ?_
    refine g_get (pc := 56) C 12 (w_12 _ _) rfl 33 (Nat.le_of_ble_eq_true rfl) in_X12_X12_performNote k215_X12_performNote rfl dX12_performNote_56 ?_
    refine g_iconst (pc := 59) (v := 1) C dX12_performNote_59 (by decide) ?_
    refine g_isub (pc := 60) C dX12_performNote_60 ?_
    refine g_callS (pc := 61) C (c_X12_lesser (Xl X) (Xb X) (r35 * r37) ((gI S36 36) - 1) S36) gX12_performNote_X12_lesser rfl rfl rfl hd_X12_lesser ⟨Nat.le_of_ble_eq_true rfl, Nat.le_of_ble_eq_true rfl⟩ rfl rfl (Nat.le_of_ble_eq_true rfl) dX12_performNote_61 h (fun r39 S38 h => ?_)
    change G X _ S38 64 [(0, .ref (ad X 12)), (1, .int a1)] [.int r39]
    refine g_istore_n (pc := 64) C [(2, .int r39), (0, .ref (ad X 12)), (1, .int a1)] dX12_performNote_64 rfl (Nat.le_of_ble_eq_true rfl) rfl ?_
    refine g_aload_n (pc := 65) C dX12_performNote_65 rfl 1 rfl ?_
    refine g_dup (pc := 66) C dX12_performNote_66 rfl ?_
    refine g_get (pc := 67) C 12 (w_12 _ _) rfl 32 (Nat.le_of_ble_eq_true rfl) in_X12_X12_performNote k212_X12_performNote rfl dX12_performNote_67 ?_
    refine g_iload_n (pc := 70) C dX12_performNote_70 rfl 0 rfl ?_
    refine g_iadd (pc := 71) C dX12_performNote_71 ?_
    refine g_put (pc := 72) C 12 (w_12 _ _) rfl 32 (Nat.le_of_ble_eq_true rfl) in_X12_X12_performNote tyX12_ok nmX12 k212_X12_performNote rfl rfl rfl (Nat.le_of_ble_eq_true rfl) (ws_12_32 _ _ _) dX12_performNote_72 h (fun S40 h => ?_)
    refine g_aload_n (pc := 75) C dX12_performNote_75 rfl 1 rfl ?_
    refine g_dup (pc := 76) C dX12_performNote_76 rfl ?_
    refine g_get (pc := 77) C 12 (w_12 _ _) rfl 33 (Nat.le_of_ble_eq_true rfl) in_X12_X12_performNote k215_X12_performNote rfl dX12_performNote_77 ?_
    refine g_iload_n (pc := 80) C dX12_performNote_80 rfl 0 rfl ?_
    refine g_isub (pc := 81) C dX12_performNote_81 ?_
    refine g_put (pc := 82) C 12 (w_12 _ _) rfl 33 (Nat.le_of_ble_eq_true rfl) in_X12_X12_performNote tyX12_ok nmX12 k215_X12_performNote rfl rfl rfl (Nat.le_of_ble_eq_true rfl) (ws_12_33 _ _ _) dX12_performNote_82 h (fun S41 h => ?_)
    refine g_weak (lv1 := [(0, .ref (ad X 12)), (1, .int a1)]) [1, 2] rfl ?_
    exact s_X12_performNote_b85 C a1  S41 h
theorem c_X12_performNote (l : Launch) (b : Bw) (a1 : Int32) (S : St) : Ct l b yX12_performNote wsX12_performNote rmX12_performNote [.ref (bad b 12), .int a1] S mkV (f_X12_performNote a1 S) := Ct.of (by decide +kernel) rfl (Nat.le_of_ble_eq_true rfl) (fun X C hl hb r h => by
  subst hl; subst hb
  exact s_X12_performNote_b0 C a1 S h)
/-! StyleRowsModel.perform()I -/
set_option maxRecDepth 100000 in
set_option maxHeartbeats 4000000 in
theorem s_X12_perform_b95 {X : MC} (C : Cx X cX12_perform RX12 wsX12_perform 4 rmX12_perform (some .int)) {rec50 : Int32 × St → Option (Int32 × St)} {rec95 : Int32 × St → Option (Int32 × St)} (v1 : Int32) (v2 : Int32) (v3 : Int32) (hrec50 : ∀ (s : Int32 × St) (r : Int32 × St), rec50 s = some r → G X (QM mkI X r) s.2 50 [(0, .ref (ad X 12)), (1, .int (s.1))] []) (hrec95 : ∀ (s : Int32 × St) (r : Int32 × St), rec95 s = some r → G X (QM mkI X r) s.2 95 [(0, .ref (ad X 12)), (1, .int v1), (2, .int v2), (3, .int (s.1))] []) (S : St) {r0 : Int32 × St} (h : f_X12_perform_b95 rec50 rec95 v1 v2 v3 S = some r0) : G X (QM mkI X r0) S 95 [(0, .ref (ad X 12)), (1, .int v1), (2, .int v2), (3, .int v3)] [] := by
  unfold f_X12_perform_b95 at h
  refine g_iload_n (pc := 95) C dX12_perform_95 rfl 3 rfl ?_
  refine g_bipush (pc := 96) (v := 6) C dX12_perform_96 (by decide) ?_
  refine g_icmp_ge (pc := 98) (tgt := 129) C h dX12_perform_98 (by decide) (fun h => ?_) (fun h => ?_)
  · refine g_aload_n (pc := 129) C dX12_perform_129 rfl 0 rfl ?_
    refine g_get (pc := 130) C 12 (w_12 _ _) rfl 31 (Nat.le_of_ble_eq_true rfl) in_X12_X12_perform k69_X12_perform rfl dX12_perform_130 ?_
    refine g_bipush (pc := 133) (v := 6) C dX12_perform_133 (by decide) ?_
    refine g_iload_n (pc := 135) C dX12_perform_135 rfl 2 rfl ?_
    refine g_imul (pc := 136) C dX12_perform_136 ?_
    refine g_iconst (pc := 137) (v := 1) C dX12_perform_137 (by decide) ?_
    refine g_iadd (pc := 138) C dX12_perform_138 ?_
    refine g_aload_n (pc := 139) C dX12_perform_139 rfl 0 rfl ?_
    refine g_iload_n (pc := 140) C dX12_perform_140 rfl 1 rfl ?_
    refine g_callV (pc := 141) C 12 (c_X12_cut (Xl X) (Xb X) v1 S) gX12_perform_X12_cut rfl rfl rfl hd_X12_cut ⟨Nat.le_of_ble_eq_true rfl, Nat.le_of_ble_eq_true rfl⟩ (w_12 _ _) rfl rfl rfl (Nat.le_of_ble_eq_true rfl) dX12_perform_141 h (fun r4 S3 h => ?_)
    change G X _ S3 144 [(0, .ref (ad X 12)), (1, .int v1), (2, .int v2), (3, .int v3)] [.int r4, .int ((6 * v2) + 1), .ref (ad X 66)]
    refine g_iast (pc := 144) C 66 (w_66 _ _) (ws_66 _ _) h dX12_perform_144 (fun S5 h => ?_)
    refine g_iinc (pc := 145) (v := v1 + 1) C [(1, .int (v1 + 1)), (0, .ref (ad X 12)), (2, .int v2), (3, .int v3)] dX12_perform_145 1 rfl rfl (Nat.le_of_ble_eq_true rfl) rfl ?_
    refine g_goto (pc := 148) (tgt := 50) C dX12_perform_148 (by decide) ?_
    refine g_weak (lv1 := [(0, .ref (ad X 12)), (1, .int (v1 + 1))]) [1, 0] rfl ?_
    exact hrec50 (v1 + 1, S5) _ h
  · refine g_aload_n (pc := 101) C dX12_perform_101 rfl 0 rfl ?_
    refine g_get (pc := 102) C 12 (w_12 _ _) rfl 31 (Nat.le_of_ble_eq_true rfl) in_X12_X12_perform k69_X12_perform rfl dX12_perform_102 ?_
    refine g_bipush (pc := 105) (v := 6) C dX12_perform_105 (by decide) ?_
    refine g_iload_n (pc := 107) C dX12_perform_107 rfl 2 rfl ?_
    refine g_imul (pc := 108) C dX12_perform_108 ?_
    refine g_iload_n (pc := 109) C dX12_perform_109 rfl 3 rfl ?_
    refine g_iadd (pc := 110) C dX12_perform_110 ?_
    refine g_aload_n (pc := 111) C dX12_perform_111 rfl 0 rfl ?_
    refine g_get (pc := 112) C 12 (w_12 _ _) rfl 29 (Nat.le_of_ble_eq_true rfl) in_X12_X12_perform k66_X12_perform rfl dX12_perform_112 ?_
    refine g_bipush (pc := 115) (v := 6) C dX12_perform_115 (by decide) ?_
    refine g_iload_n (pc := 117) C dX12_perform_117 rfl 1 rfl ?_
    refine g_imul (pc := 118) C dX12_perform_118 ?_
    refine g_iload_n (pc := 119) C dX12_perform_119 rfl 3 rfl ?_
    refine g_iadd (pc := 120) C dX12_perform_120 ?_
    refine g_iald (pc := 121) C 65 (w_65 _ _) h dX12_perform_121 (fun h => ?_)
    refine g_iast (pc := 122) C 66 (w_66 _ _) (ws_66 _ _) h dX12_perform_122 (fun S6 h => ?_)
    refine g_iinc (pc := 123) (v := v3 + 1) C [(3, .int (v3 + 1)), (0, .ref (ad X 12)), (1, .int v1), (2, .int v2)] dX12_perform_123 3 rfl rfl (Nat.le_of_ble_eq_true rfl) rfl ?_
    refine g_goto (pc := 126) (tgt := 95) C dX12_perform_126 (by decide) ?_
    refine g_weak (lv1 := [(0, .ref (ad X 12)), (1, .int v1), (2, .int v2), (3, .int (v3 + 1))]) [1, 2, 3, 0] rfl ?_
    exact hrec95 (v3 + 1, S6) _ h
set_option maxRecDepth 100000 in
set_option maxHeartbeats 4000000 in
theorem s_X12_perform_l95 {X : MC} (C : Cx X cX12_perform RX12 wsX12_perform 4 rmX12_perform (some .int)) {rec50 : Int32 × St → Option (Int32 × St)} (v1 : Int32) (v2 : Int32) (hrec50 : ∀ (s : Int32 × St) (r : Int32 × St), rec50 s = some r → G X (QM mkI X r) s.2 50 [(0, .ref (ad X 12)), (1, .int (s.1))] []) : ∀ (n : Nat) (s : Int32 × St) (r : Int32 × St), f_X12_perform_l95 rec50 v1 v2 n s = some r → G X (QM mkI X r) s.2 95 [(0, .ref (ad X 12)), (1, .int v1), (2, .int v2), (3, .int (s.1))] [] :=
  loop_sound (fun rec95 hrec95 s r h => s_X12_perform_b95 C v1 v2 s.1 hrec50 hrec95 s.2 h)
set_option maxRecDepth 100000 in
set_option maxHeartbeats 4000000 in
theorem s_X12_perform_b85 {X : MC} (C : Cx X cX12_perform RX12 wsX12_perform 4 rmX12_perform (some .int)) {rec50 : Int32 × St → Option (Int32 × St)} {rec62 : Int32 × Int32 × St → Option (Int32 × St)} (v1 : Int32) (v3 : Int32) (w0 : Int32) (w1 : Int32) (hrec50 : ∀ (s : Int32 × St) (r : Int32 × St), rec50 s = some r → G X (QM mkI X r) s.2 50 [(0, .ref (ad X 12)), (1, .int (s.1))] []) (hrec62 : ∀ (s : Int32 × Int32 × St) (r : Int32 × St), rec62 s = some r → G X (QM mkI X r) s.2.2 62 [(0, .ref (ad X 12)), (1, .int v1), (2, .int (s.1)), (3, .int (s.2.1))] []) (S : St) {r0 : Int32 × St} (h : f_X12_perform_b85 rec50 rec62 v1 v3 w0 w1 S = some r0) : G X (QM mkI X r0) S 85 [(0, .ref (ad X 12)), (1, .int v1), (3, .int v3)] [.int w1, .int w0] := by
  unfold f_X12_perform_b85 at h
  refine g_iadd (pc := 85) C dX12_perform_85 ?_
  refine g_leti h (fun x9 h => ?_)
  refine g_istore_n (pc := 86) C [(2, .int x9), (0, .ref (ad X 12)), (1, .int v1), (3, .int v3)] dX12_perform_86 rfl (Nat.le_of_ble_eq_true rfl) rfl ?_
  refine g_iinc (pc := 87) (v := v3 + 1) C [(3, .int (v3 + 1)), (2, .int x9), (0, .ref (ad X 12)), (1, .int v1)] dX12_perform_87 3 rfl rfl (Nat.le_of_ble_eq_true rfl) rfl ?_
  refine g_goto (pc := 90) (tgt := 62) C dX12_perform_90 (by decide) ?_
  refine g_weak (lv1 := [(0, .ref (ad X 12)), (1, .int v1), (2, .int x9), (3, .int (v3 + 1))]) [2, 3, 1, 0] rfl ?_
  exact hrec62 (x9, v3 + 1, S) _ h
set_option maxRecDepth 100000 in
set_option maxHeartbeats 4000000 in
theorem s_X12_perform_b62 {X : MC} (C : Cx X cX12_perform RX12 wsX12_perform 4 rmX12_perform (some .int)) {rec50 : Int32 × St → Option (Int32 × St)} {rec62 : Int32 × Int32 × St → Option (Int32 × St)} (v1 : Int32) (v2 : Int32) (v3 : Int32) (hrec50 : ∀ (s : Int32 × St) (r : Int32 × St), rec50 s = some r → G X (QM mkI X r) s.2 50 [(0, .ref (ad X 12)), (1, .int (s.1))] []) (hrec62 : ∀ (s : Int32 × Int32 × St) (r : Int32 × St), rec62 s = some r → G X (QM mkI X r) s.2.2 62 [(0, .ref (ad X 12)), (1, .int v1), (2, .int (s.1)), (3, .int (s.2.1))] []) (S : St) {r0 : Int32 × St} (h : f_X12_perform_b62 rec50 rec62 v1 v2 v3 S = some r0) : G X (QM mkI X r0) S 62 [(0, .ref (ad X 12)), (1, .int v1), (2, .int v2), (3, .int v3)] [] := by
  unfold f_X12_perform_b62 at h
  refine g_iload_n (pc := 62) C dX12_perform_62 rfl 3 rfl ?_
  refine g_aload_n (pc := 63) C dX12_perform_63 rfl 0 rfl ?_
  refine g_get (pc := 64) C 12 (w_12 _ _) rfl 28 (Nat.le_of_ble_eq_true rfl) in_X12_X12_perform k209_X12_perform rfl dX12_perform_64 ?_
  refine g_icmp_ge (pc := 67) (tgt := 93) C h dX12_perform_67 (by decide) (fun h => ?_) (fun h => ?_)
  · refine g_iconst (pc := 93) (v := 0) C dX12_perform_93 (by decide) ?_
    refine g_istore_n (pc := 94) C [(3, .int 0), (0, .ref (ad X 12)), (1, .int v1), (2, .int v2)] dX12_perform_94 rfl (Nat.le_of_ble_eq_true rfl) rfl ?_
    refine g_weak (lv1 := [(0, .ref (ad X 12)), (1, .int v1), (2, .int v2), (3, .int 0)]) [1, 2, 3, 0] rfl ?_
    exact s_X12_perform_l95 C v1 v2 hrec50 _ (0, S) _ h
  · refine g_iload_n (pc := 70) C dX12_perform_70 rfl 2 rfl ?_
    refine g_aload_n (pc := 71) C dX12_perform_71 rfl 0 rfl ?_
    refine g_iload_n (pc := 72) C dX12_perform_72 rfl 3 rfl ?_
    refine g_iload_n (pc := 73) C dX12_perform_73 rfl 1 rfl ?_
    refine g_callV (pc := 74) C 12 (c_X12_isAhead (Xl X) (Xb X) v3 v1 S) gX12_perform_X12_isAhead rfl rfl rfl hd_X12_isAhead ⟨Nat.le_of_ble_eq_true rfl, Nat.le_of_ble_eq_true rfl⟩ (w_12 _ _) rfl rfl rfl (Nat.le_of_ble_eq_true rfl) dX12_perform_74 h (fun r8 S7 h => ?_)
    change G X _ S7 77 [(0, .ref (ad X 12)), (1, .int v1), (2, .int v2), (3, .int v3)] [.int r8, .int v2]
    refine g_if_eq (pc := 77) (tgt := 84) C h dX12_perform_77 (by decide) (fun h => ?_) (fun h => ?_)
    · refine g_iconst (pc := 84) (v := 0) C dX12_perform_84 (by decide) ?_
      refine g_weak (lv1 := [(0, .ref (ad X 12)), (1, .int v1), (3, .int v3)]) [0, 1, 3] rfl ?_
      exact s_X12_perform_b85 C v1 v3 v2 0 hrec50 hrec62  S7 h
    · refine g_iconst (pc := 80) (v := 1) C dX12_perform_80 (by decide) ?_
      refine g_goto (pc := 81) (tgt := 85) C dX12_perform_81 (by decide) ?_
      refine g_weak (lv1 := [(0, .ref (ad X 12)), (1, .int v1), (3, .int v3)]) [0, 1, 3] rfl ?_
      exact s_X12_perform_b85 C v1 v3 v2 1 hrec50 hrec62  S7 h
set_option maxRecDepth 100000 in
set_option maxHeartbeats 4000000 in
theorem s_X12_perform_l62 {X : MC} (C : Cx X cX12_perform RX12 wsX12_perform 4 rmX12_perform (some .int)) {rec50 : Int32 × St → Option (Int32 × St)} (v1 : Int32) (hrec50 : ∀ (s : Int32 × St) (r : Int32 × St), rec50 s = some r → G X (QM mkI X r) s.2 50 [(0, .ref (ad X 12)), (1, .int (s.1))] []) : ∀ (n : Nat) (s : Int32 × Int32 × St) (r : Int32 × St), f_X12_perform_l62 rec50 v1 n s = some r → G X (QM mkI X r) s.2.2 62 [(0, .ref (ad X 12)), (1, .int v1), (2, .int (s.1)), (3, .int (s.2.1))] [] :=
  loop_sound (fun rec62 hrec62 s r h => s_X12_perform_b62 C v1 s.1 s.2.1 hrec50 hrec62 s.2.2 h)
set_option maxRecDepth 100000 in
set_option maxHeartbeats 4000000 in
theorem s_X12_perform_b50 {X : MC} (C : Cx X cX12_perform RX12 wsX12_perform 4 rmX12_perform (some .int)) {rec50 : Int32 × St → Option (Int32 × St)} (v1 : Int32) (hrec50 : ∀ (s : Int32 × St) (r : Int32 × St), rec50 s = some r → G X (QM mkI X r) s.2 50 [(0, .ref (ad X 12)), (1, .int (s.1))] []) (S : St) {r0 : Int32 × St} (h : f_X12_perform_b50 rec50 v1 S = some r0) : G X (QM mkI X r0) S 50 [(0, .ref (ad X 12)), (1, .int v1)] [] := by
  unfold f_X12_perform_b50 at h
  refine g_iload_n (pc := 50) C dX12_perform_50 rfl 1 rfl ?_
  refine g_aload_n (pc := 51) C dX12_perform_51 rfl 0 rfl ?_
  refine g_get (pc := 52) C 12 (w_12 _ _) rfl 28 (Nat.le_of_ble_eq_true rfl) in_X12_X12_perform k209_X12_perform rfl dX12_perform_52 ?_
  refine g_icmp_ge (pc := 55) (tgt := 151) C h dX12_perform_55 (by decide) (fun h => ?_) (fun h => ?_)
  · refine g_aload_n (pc := 151) C dX12_perform_151 rfl 0 rfl ?_
    refine g_get (pc := 152) C 12 (w_12 _ _) rfl 30 (Nat.le_of_ble_eq_true rfl) in_X12_X12_perform k257_X12_perform rfl dX12_perform_152 ?_
    exact g_iret (pc := 155) C h dX12_perform_155
  · refine g_iconst (pc := 58) (v := 0) C dX12_perform_58 (by decide) ?_
    refine g_istore_n (pc := 59) C [(2, .int 0), (0, .ref (ad X 12)), (1, .int v1)] dX12_perform_59 rfl (Nat.le_of_ble_eq_true rfl) rfl ?_
    refine g_iconst (pc := 60) (v := 0) C dX12_perform_60 (by decide) ?_
    refine g_istore_n (pc := 61) C [(3, .int 0), (2, .int 0), (0, .ref (ad X 12)), (1, .int v1)] dX12_perform_61 rfl (Nat.le_of_ble_eq_true rfl) rfl ?_
    refine g_weak (lv1 := [(0, .ref (ad X 12)), (1, .int v1), (2, .int 0), (3, .int 0)]) [2, 3, 1, 0] rfl ?_
    exact s_X12_perform_l62 C v1 hrec50 _ (0, 0, S) _ h
set_option maxRecDepth 100000 in
set_option maxHeartbeats 4000000 in
theorem s_X12_perform_l50 {X : MC} (C : Cx X cX12_perform RX12 wsX12_perform 4 rmX12_perform (some .int)) : ∀ (n : Nat) (s : Int32 × St) (r : Int32 × St), f_X12_perform_l50 n s = some r → G X (QM mkI X r) s.2 50 [(0, .ref (ad X 12)), (1, .int (s.1))] [] :=
  loop_sound (fun rec50 hrec50 s r h => s_X12_perform_b50 C s.1 hrec50 s.2 h)
set_option maxRecDepth 100000 in
set_option maxHeartbeats 4000000 in
theorem s_X12_perform_b7 {X : MC} (C : Cx X cX12_perform RX12 wsX12_perform 4 rmX12_perform (some .int)) {rec7 : Int32 × St → Option (Int32 × St)} (v1 : Int32) (hrec7 : ∀ (s : Int32 × St) (r : Int32 × St), rec7 s = some r → G X (QM mkI X r) s.2 7 [(0, .ref (ad X 12)), (1, .int (s.1))] []) (S : St) {r0 : Int32 × St} (h : f_X12_perform_b7 rec7 v1 S = some r0) : G X (QM mkI X r0) S 7 [(0, .ref (ad X 12)), (1, .int v1)] [] := by
  unfold f_X12_perform_b7 at h
  refine g_iload_n (pc := 7) C dX12_perform_7 rfl 1 rfl ?_
  refine g_aload_n (pc := 8) C dX12_perform_8 rfl 0 rfl ?_
  refine g_get (pc := 9) C 12 (w_12 _ _) rfl 1 (Nat.le_of_ble_eq_true rfl) in_X12_X12_perform k92_X12_perform rfl dX12_perform_9 ?_
  refine g_icmp_ge (pc := 12) (tgt := 26) C h dX12_perform_12 (by decide) (fun h => ?_) (fun h => ?_)
  · refine g_aload_n (pc := 26) C dX12_perform_26 rfl 0 rfl ?_
    refine g_get (pc := 27) C 12 (w_12 _ _) rfl 28 (Nat.le_of_ble_eq_true rfl) in_X12_X12_perform k209_X12_perform rfl dX12_perform_27 ?_
    refine g_sipush (pc := 30) (v := 400) C dX12_perform_30 (by decide) ?_
    refine g_icmp_le (pc := 33) (tgt := 40) C h dX12_perform_33 (by decide) (fun h => ?_) (fun h => ?_)
    · refine g_aload_n (pc := 40) C dX12_perform_40 rfl 0 rfl ?_
      refine g_aload_n (pc := 41) C dX12_perform_41 rfl 0 rfl ?_
      refine g_get (pc := 42) C 12 (w_12 _ _) rfl 28 (Nat.le_of_ble_eq_true rfl) in_X12_X12_perform k209_X12_perform rfl dX12_perform_42 ?_
      refine g_put (pc := 45) C 12 (w_12 _ _) rfl 30 (Nat.le_of_ble_eq_true rfl) in_X12_X12_perform tyX12_ok nmX12 k257_X12_perform rfl rfl rfl (Nat.le_of_ble_eq_true rfl) (ws_12_30 _ _ _) dX12_perform_45 h (fun S2 h => ?_)
      refine g_iconst (pc := 48) (v := 0) C dX12_perform_48 (by decide) ?_
      refine g_istore_n (pc := 49) C [(1, .int 0), (0, .ref (ad X 12))] dX12_perform_49 rfl (Nat.le_of_ble_eq_true rfl) rfl ?_
      refine g_weak (lv1 := [(0, .ref (ad X 12)), (1, .int 0)]) [1, 0] rfl ?_
      exact s_X12_perform_l50 C  _ (0, S2) _ h
    · refine g_sipush (pc := 36) (v := (-1004)) C dX12_perform_36 (by decide) ?_
      exact g_iret (pc := 39) C h dX12_perform_39
  · refine g_aload_n (pc := 15) C dX12_perform_15 rfl 0 rfl ?_
    refine g_iload_n (pc := 16) C dX12_perform_16 rfl 1 rfl ?_
    refine g_callV (pc := 17) C 12 (c_X12_performNote (Xl X) (Xb X) v1 S) gX12_perform_X12_performNote rfl rfl rfl hd_X12_performNote ⟨Nat.le_of_ble_eq_true rfl, Nat.le_of_ble_eq_true rfl⟩ (w_12 _ _) rfl rfl rfl (Nat.le_of_ble_eq_true rfl) dX12_perform_17 h (fun _u10 S10 h => ?_)
    change G X _ S10 20 [(0, .ref (ad X 12)), (1, .int v1)] []
    refine g_iinc (pc := 20) (v := v1 + 1) C [(1, .int (v1 + 1)), (0, .ref (ad X 12))] dX12_perform_20 1 rfl rfl (Nat.le_of_ble_eq_true rfl) rfl ?_
    refine g_goto (pc := 23) (tgt := 7) C dX12_perform_23 (by decide) ?_
    refine g_weak (lv1 := [(0, .ref (ad X 12)), (1, .int (v1 + 1))]) [1, 0] rfl ?_
    exact hrec7 (v1 + 1, S10) _ h
set_option maxRecDepth 100000 in
set_option maxHeartbeats 4000000 in
theorem s_X12_perform_l7 {X : MC} (C : Cx X cX12_perform RX12 wsX12_perform 4 rmX12_perform (some .int)) : ∀ (n : Nat) (s : Int32 × St) (r : Int32 × St), f_X12_perform_l7 n s = some r → G X (QM mkI X r) s.2 7 [(0, .ref (ad X 12)), (1, .int (s.1))] [] :=
  loop_sound (fun rec7 hrec7 s r h => s_X12_perform_b7 C s.1 hrec7 s.2 h)
set_option maxRecDepth 100000 in
set_option maxHeartbeats 4000000 in
theorem s_X12_perform_b0 {X : MC} (C : Cx X cX12_perform RX12 wsX12_perform 4 rmX12_perform (some .int)) (S : St) {r0 : Int32 × St} (h : f_X12_perform_b0 S = some r0) : G X (QM mkI X r0) S 0 [(0, .ref (ad X 12))] [] := by
  unfold f_X12_perform_b0 at h
  refine g_aload_n (pc := 0) C dX12_perform_0 rfl 0 rfl ?_
  refine g_iconst (pc := 1) (v := 0) C dX12_perform_1 (by decide) ?_
  refine g_put (pc := 2) C 12 (w_12 _ _) rfl 28 (Nat.le_of_ble_eq_true rfl) in_X12_X12_perform tyX12_ok nmX12 k209_X12_perform rfl rfl rfl (Nat.le_of_ble_eq_true rfl) (ws_12_28 _ _ _) dX12_perform_2 h (fun S1 h => ?_)
  refine g_iconst (pc := 5) (v := 0) C dX12_perform_5 (by decide) ?_
  refine g_istore_n (pc := 6) C [(1, .int 0), (0, .ref (ad X 12))] dX12_perform_6 rfl (Nat.le_of_ble_eq_true rfl) rfl ?_
  refine g_weak (lv1 := [(0, .ref (ad X 12)), (1, .int 0)]) [1, 0] rfl ?_
  exact s_X12_perform_l7 C  _ (0, S1) _ h
theorem c_X12_perform (l : Launch) (b : Bw) (S : St) : Ct l b yX12_perform wsX12_perform rmX12_perform [.ref (bad b 12)] S mkI (f_X12_perform S) := Ct.of (by decide +kernel) rfl (Nat.le_of_ble_eq_true rfl) (fun X C hl hb r h => by
  subst hl; subst hb
  exact s_X12_perform_b0 C S h)
/-! StyleRowsModel.event(II)I -/
set_option maxRecDepth 100000 in
set_option maxHeartbeats 4000000 in
theorem s_X12_event_b28 {X : MC} (C : Cx X cX12_event RX12 wsX12_event 3 rmX12_event (some .int)) (S : St) {r0 : Int32 × St} (h : f_X12_event_b28 S = some r0) : G X (QM mkI X r0) S 28 [] [] := by
  unfold f_X12_event_b28 at h
  refine g_sipush (pc := 28) (v := (-1001)) C dX12_event_28 (by decide) ?_
  exact g_iret (pc := 31) C h dX12_event_31
set_option maxRecDepth 100000 in
set_option maxHeartbeats 4000000 in
theorem s_X12_event_b68 {X : MC} (C : Cx X cX12_event RX12 wsX12_event 3 rmX12_event (some .int)) (w0 : Int32) (S : St) {r0 : Int32 × St} (h : f_X12_event_b68 w0 S = some r0) : G X (QM mkI X r0) S 68 [] [.int w0] := by
  unfold f_X12_event_b68 at h
  exact g_iret (pc := 68) C h dX12_event_68
set_option maxRecDepth 100000 in
set_option maxHeartbeats 4000000 in
theorem s_X12_event_b0 {X : MC} (C : Cx X cX12_event RX12 wsX12_event 3 rmX12_event (some .int)) (a1 : Int32) (a2 : Int32) (S : St) {r0 : Int32 × St} (h : f_X12_event_b0 a1 a2 S = some r0) : G X (QM mkI X r0) S 0 [(0, .ref (ad X 12)), (1, .int a1), (2, .int a2)] [] := by
  unfold f_X12_event_b0 at h
  refine g_iload_n (pc := 0) C dX12_event_0 rfl 1 rfl ?_
  refine g_i2l (pc := 1) C dX12_event_1 ?_
  refine g_lconst (pc := 2) (v := 0) C dX12_event_2 (by decide) ?_
  refine g_aload_n (pc := 3) C dX12_event_3 rfl 0 rfl ?_
  refine g_get (pc := 4) C 12 (w_12 _ _) rfl 30 (Nat.le_of_ble_eq_true rfl) in_X12_X12_event k257_X12_event rfl dX12_event_4 ?_
  refine g_iconst (pc := 7) (v := 1) C dX12_event_7 (by decide) ?_
  refine g_isub (pc := 8) C dX12_event_8 ?_
  refine g_i2l (pc := 9) C dX12_event_9 ?_
  refine g_callS (pc := 10) C (c_X12_in (Xl X) (Xb X) (Int32.toInt64 a1) 0 (Int32.toInt64 ((gI S 34) - 1)) S) gX12_event_X12_in rfl rfl rfl hd_X12_in ⟨Nat.le_of_ble_eq_true rfl, Nat.le_of_ble_eq_true rfl⟩ rfl rfl (Nat.le_of_ble_eq_true rfl) dX12_event_10 h (fun r2 S1 h => ?_)
  change G X _ S1 13 [(0, .ref (ad X 12)), (1, .int a1), (2, .int a2)] [.int r2]
  refine g_if_eq (pc := 13) (tgt := 28) C h dX12_event_13 (by decide) (fun h => ?_) (fun h => ?_)
  · refine g_weak (lv1 := []) [] rfl ?_
    exact s_X12_event_b28 C   S1 h
  · refine g_iload_n (pc := 16) C dX12_event_16 rfl 2 rfl ?_
    refine g_i2l (pc := 17) C dX12_event_17 ?_
    refine g_lconst (pc := 18) (v := 0) C dX12_event_18 (by decide) ?_
    refine g_ldc2 (pc := 19) (v := 6) C k266_X12_event dX12_event_19 ?_
    refine g_callS (pc := 22) C (c_X12_in (Xl X) (Xb X) (Int32.toInt64 a2) 0 6 S1) gX12_event_X12_in rfl rfl rfl hd_X12_in ⟨Nat.le_of_ble_eq_true rfl, Nat.le_of_ble_eq_true rfl⟩ rfl rfl (Nat.le_of_ble_eq_true rfl) dX12_event_22 h (fun r4 S3 h => ?_)
    change G X _ S3 25 [(0, .ref (ad X 12)), (1, .int a1), (2, .int a2)] [.int r4]
    refine g_if_ne (pc := 25) (tgt := 32) C h dX12_event_25 (by decide) (fun h => ?_) (fun h => ?_)
    · refine g_iload_n (pc := 32) C dX12_event_32 rfl 2 rfl ?_
      refine g_bipush (pc := 33) (v := 6) C dX12_event_33 (by decide) ?_
      refine g_icmp_ne (pc := 35) (tgt := 57) C h dX12_event_35 (by decide) (fun h => ?_) (fun h => ?_)
      · refine g_aload_n (pc := 57) C dX12_event_57 rfl 0 rfl ?_
        refine g_get (pc := 58) C 12 (w_12 _ _) rfl 31 (Nat.le_of_ble_eq_true rfl) in_X12_X12_event k69_X12_event rfl dX12_event_58 ?_
        refine g_bipush (pc := 61) (v := 6) C dX12_event_61 (by decide) ?_
        refine g_iload_n (pc := 63) C dX12_event_63 rfl 1 rfl ?_
        refine g_imul (pc := 64) C dX12_event_64 ?_
        refine g_iload_n (pc := 65) C dX12_event_65 rfl 2 rfl ?_
        refine g_iadd (pc := 66) C dX12_event_66 ?_
        refine g_iald (pc := 67) C 66 (w_66 _ _) h dX12_event_67 (fun h => ?_)
        refine g_weak (lv1 := []) [] rfl ?_
        exact s_X12_event_b68 C (rd S3 66 ((6 * a1) + a2))  S3 h
      · refine g_aload_n (pc := 38) C dX12_event_38 rfl 0 rfl ?_
        refine g_get (pc := 39) C 12 (w_12 _ _) rfl 2 (Nat.le_of_ble_eq_true rfl) in_X12_X12_event k7_X12_event rfl dX12_event_39 ?_
        refine g_aload_n (pc := 42) C dX12_event_42 rfl 0 rfl ?_
        refine g_get (pc := 43) C 12 (w_12 _ _) rfl 31 (Nat.le_of_ble_eq_true rfl) in_X12_X12_event k69_X12_event rfl dX12_event_43 ?_
        refine g_bipush (pc := 46) (v := 6) C dX12_event_46 (by decide) ?_
        refine g_iload_n (pc := 48) C dX12_event_48 rfl 1 rfl ?_
        refine g_imul (pc := 49) C dX12_event_49 ?_
        refine g_iconst (pc := 50) (v := 4) C dX12_event_50 (by decide) ?_
        refine g_iadd (pc := 51) C dX12_event_51 ?_
        refine g_iald (pc := 52) C 66 (w_66 _ _) h dX12_event_52 (fun h => ?_)
        refine g_iald (pc := 53) C 49 (w_49 _ _) h dX12_event_53 (fun h => ?_)
        refine g_goto (pc := 54) (tgt := 68) C dX12_event_54 (by decide) ?_
        refine g_weak (lv1 := []) [] rfl ?_
        exact s_X12_event_b68 C (rd S3 49 (rd S3 66 ((6 * a1) + 4)))  S3 h
    · refine g_weak (lv1 := []) [] rfl ?_
      exact s_X12_event_b28 C   S3 h
theorem c_X12_event (l : Launch) (b : Bw) (a1 : Int32) (a2 : Int32) (S : St) : Ct l b yX12_event wsX12_event rmX12_event [.ref (bad b 12), .int a1, .int a2] S mkI (f_X12_event a1 a2 S) := Ct.of (by decide +kernel) rfl (Nat.le_of_ble_eq_true rfl) (fun X C hl hb r h => by
  subst hl; subst hb
  exact s_X12_event_b0 C a1 a2 S h)
/-! StyleRowsModel.sounding(I)I -/
set_option maxRecDepth 100000 in
set_option maxHeartbeats 4000000 in
theorem s_X12_sounding_b56 {X : MC} (C : Cx X cX12_sounding RX12 wsX12_sounding 4 rmX12_sounding (some .int)) {rec4 : Int32 × Int32 × St → Option (Int32 × St)} (v1 : Int32) (v3 : Int32) (w0 : Int32) (w1 : Int32) (hrec4 : ∀ (s : Int32 × Int32 × St) (r : Int32 × St), rec4 s = some r → G X (QM mkI X r) s.2.2 4 [(0, .ref (ad X 12)), (1, .int v1), (2, .int (s.1)), (3, .int (s.2.1))] []) (S : St) {r0 : Int32 × St} (h : f_X12_sounding_b56 rec4 v1 v3 w0 w1 S = some r0) : G X (QM mkI X r0) S 56 [(0, .ref (ad X 12)), (1, .int v1), (3, .int v3)] [.int w1, .int w0] := by
  unfold f_X12_sounding_b56 at h
  refine g_iadd (pc := 56) C dX12_sounding_56 ?_
  refine g_leti h (fun x1 h => ?_)
  refine g_istore_n (pc := 57) C [(2, .int x1), (0, .ref (ad X 12)), (1, .int v1), (3, .int v3)] dX12_sounding_57 rfl (Nat.le_of_ble_eq_true rfl) rfl ?_
  refine g_iinc (pc := 58) (v := v3 + 1) C [(3, .int (v3 + 1)), (2, .int x1), (0, .ref (ad X 12)), (1, .int v1)] dX12_sounding_58 3 rfl rfl (Nat.le_of_ble_eq_true rfl) rfl ?_
  refine g_goto (pc := 61) (tgt := 4) C dX12_sounding_61 (by decide) ?_
  refine g_weak (lv1 := [(0, .ref (ad X 12)), (1, .int v1), (2, .int x1), (3, .int (v3 + 1))]) [2, 3, 1, 0] rfl ?_
  exact hrec4 (x1, v3 + 1, S) _ h
set_option maxRecDepth 100000 in
set_option maxHeartbeats 4000000 in
theorem s_X12_sounding_b55 {X : MC} (C : Cx X cX12_sounding RX12 wsX12_sounding 4 rmX12_sounding (some .int)) {rec4 : Int32 × Int32 × St → Option (Int32 × St)} (v1 : Int32) (v3 : Int32) (w0 : Int32) (hrec4 : ∀ (s : Int32 × Int32 × St) (r : Int32 × St), rec4 s = some r → G X (QM mkI X r) s.2.2 4 [(0, .ref (ad X 12)), (1, .int v1), (2, .int (s.1)), (3, .int (s.2.1))] []) (S : St) {r0 : Int32 × St} (h : f_X12_sounding_b55 rec4 v1 v3 w0 S = some r0) : G X (QM mkI X r0) S 55 [(0, .ref (ad X 12)), (1, .int v1), (3, .int v3)] [.int w0] := by
  unfold f_X12_sounding_b55 at h
  refine g_iconst (pc := 55) (v := 0) C dX12_sounding_55 (by decide) ?_
  refine g_weak (lv1 := [(0, .ref (ad X 12)), (1, .int v1), (3, .int v3)]) [0, 1, 2] rfl ?_
  exact s_X12_sounding_b56 C v1 v3 w0 0 hrec4  S h
set_option maxRecDepth 100000 in
set_option maxHeartbeats 4000000 in
theorem s_X12_sounding_b4 {X : MC} (C : Cx X cX12_sounding RX12 wsX12_sounding 4 rmX12_sounding (some .int)) {rec4 : Int32 × Int32 × St → Option (Int32 × St)} (v1 : Int32) (v2 : Int32) (v3 : Int32) (hrec4 : ∀ (s : Int32 × Int32 × St) (r : Int32 × St), rec4 s = some r → G X (QM mkI X r) s.2.2 4 [(0, .ref (ad X 12)), (1, .int v1), (2, .int (s.1)), (3, .int (s.2.1))] []) (S : St) {r0 : Int32 × St} (h : f_X12_sounding_b4 rec4 v1 v2 v3 S = some r0) : G X (QM mkI X r0) S 4 [(0, .ref (ad X 12)), (1, .int v1), (2, .int v2), (3, .int v3)] [] := by
  unfold f_X12_sounding_b4 at h
  refine g_iload_n (pc := 4) C dX12_sounding_4 rfl 3 rfl ?_
  refine g_aload_n (pc := 5) C dX12_sounding_5 rfl 0 rfl ?_
  refine g_get (pc := 6) C 12 (w_12 _ _) rfl 30 (Nat.le_of_ble_eq_true rfl) in_X12_X12_sounding k257_X12_sounding rfl dX12_sounding_6 ?_
  refine g_icmp_ge (pc := 9) (tgt := 64) C h dX12_sounding_9 (by decide) (fun h => ?_) (fun h => ?_)
  · refine g_iload_n (pc := 64) C dX12_sounding_64 rfl 2 rfl ?_
    exact g_iret (pc := 65) C h dX12_sounding_65
  · refine g_iload_n (pc := 12) C dX12_sounding_12 rfl 2 rfl ?_
    refine g_aload_n (pc := 13) C dX12_sounding_13 rfl 0 rfl ?_
    refine g_get (pc := 14) C 12 (w_12 _ _) rfl 31 (Nat.le_of_ble_eq_true rfl) in_X12_X12_sounding k69_X12_sounding rfl dX12_sounding_14 ?_
    refine g_bipush (pc := 17) (v := 6) C dX12_sounding_17 (by decide) ?_
    refine g_iload_n (pc := 19) C dX12_sounding_19 rfl 3 rfl ?_
    refine g_imul (pc := 20) C dX12_sounding_20 ?_
    refine g_iald (pc := 21) C 66 (w_66 _ _) h dX12_sounding_21 (fun h => ?_)
    refine g_iload_n (pc := 22) C dX12_sounding_22 rfl 1 rfl ?_
    refine g_icmp_gt (pc := 23) (tgt := 55) C h dX12_sounding_23 (by decide) (fun h => ?_) (fun h => ?_)
    · refine g_weak (lv1 := [(0, .ref (ad X 12)), (1, .int v1), (3, .int v3)]) [0, 1, 3] rfl ?_
      exact s_X12_sounding_b55 C v1 v3 v2 hrec4  S h
    · refine g_aload_n (pc := 26) C dX12_sounding_26 rfl 0 rfl ?_
      refine g_get (pc := 27) C 12 (w_12 _ _) rfl 31 (Nat.le_of_ble_eq_true rfl) in_X12_X12_sounding k69_X12_sounding rfl dX12_sounding_27 ?_
      refine g_bipush (pc := 30) (v := 6) C dX12_sounding_30 (by decide) ?_
      refine g_iload_n (pc := 32) C dX12_sounding_32 rfl 3 rfl ?_
      refine g_imul (pc := 33) C dX12_sounding_33 ?_
      refine g_iald (pc := 34) C 66 (w_66 _ _) h dX12_sounding_34 (fun h => ?_)
      refine g_aload_n (pc := 35) C dX12_sounding_35 rfl 0 rfl ?_
      refine g_get (pc := 36) C 12 (w_12 _ _) rfl 31 (Nat.le_of_ble_eq_true rfl) in_X12_X12_sounding k69_X12_sounding rfl dX12_sounding_36 ?_
      refine g_bipush (pc := 39) (v := 6) C dX12_sounding_39 (by decide) ?_
      refine g_iload_n (pc := 41) C dX12_sounding_41 rfl 3 rfl ?_
      refine g_imul (pc := 42) C dX12_sounding_42 ?_
      refine g_iconst (pc := 43) (v := 1) C dX12_sounding_43 (by decide) ?_
      refine g_iadd (pc := 44) C dX12_sounding_44 ?_
      refine g_iald (pc := 45) C 66 (w_66 _ _) h dX12_sounding_45 (fun h => ?_)
      refine g_iadd (pc := 46) C dX12_sounding_46 ?_
      refine g_iload_n (pc := 47) C dX12_sounding_47 rfl 1 rfl ?_
      refine g_icmp_le (pc := 48) (tgt := 55) C h dX12_sounding_48 (by decide) (fun h => ?_) (fun h => ?_)
      · refine g_weak (lv1 := [(0, .ref (ad X 12)), (1, .int v1), (3, .int v3)]) [0, 1, 3] rfl ?_
        exact s_X12_sounding_b55 C v1 v3 v2 hrec4  S h
      · refine g_iconst (pc := 51) (v := 1) C dX12_sounding_51 (by decide) ?_
        refine g_goto (pc := 52) (tgt := 56) C dX12_sounding_52 (by decide) ?_
        refine g_weak (lv1 := [(0, .ref (ad X 12)), (1, .int v1), (3, .int v3)]) [0, 1, 3] rfl ?_
        exact s_X12_sounding_b56 C v1 v3 v2 1 hrec4  S h
set_option maxRecDepth 100000 in
set_option maxHeartbeats 4000000 in
theorem s_X12_sounding_l4 {X : MC} (C : Cx X cX12_sounding RX12 wsX12_sounding 4 rmX12_sounding (some .int)) (v1 : Int32) : ∀ (n : Nat) (s : Int32 × Int32 × St) (r : Int32 × St), f_X12_sounding_l4 v1 n s = some r → G X (QM mkI X r) s.2.2 4 [(0, .ref (ad X 12)), (1, .int v1), (2, .int (s.1)), (3, .int (s.2.1))] [] :=
  loop_sound (fun rec4 hrec4 s r h => s_X12_sounding_b4 C v1 s.1 s.2.1 hrec4 s.2.2 h)
set_option maxRecDepth 100000 in
set_option maxHeartbeats 4000000 in
theorem s_X12_sounding_b0 {X : MC} (C : Cx X cX12_sounding RX12 wsX12_sounding 4 rmX12_sounding (some .int)) (a1 : Int32) (S : St) {r0 : Int32 × St} (h : f_X12_sounding_b0 a1 S = some r0) : G X (QM mkI X r0) S 0 [(0, .ref (ad X 12)), (1, .int a1)] [] := by
  unfold f_X12_sounding_b0 at h
  refine g_iconst (pc := 0) (v := 0) C dX12_sounding_0 (by decide) ?_
  refine g_istore_n (pc := 1) C [(2, .int 0), (0, .ref (ad X 12)), (1, .int a1)] dX12_sounding_1 rfl (Nat.le_of_ble_eq_true rfl) rfl ?_
  refine g_iconst (pc := 2) (v := 0) C dX12_sounding_2 (by decide) ?_
  refine g_istore_n (pc := 3) C [(3, .int 0), (2, .int 0), (0, .ref (ad X 12)), (1, .int a1)] dX12_sounding_3 rfl (Nat.le_of_ble_eq_true rfl) rfl ?_
  refine g_weak (lv1 := [(0, .ref (ad X 12)), (1, .int a1), (2, .int 0), (3, .int 0)]) [2, 3, 1, 0] rfl ?_
  exact s_X12_sounding_l4 C a1 _ (0, 0, S) _ h
theorem c_X12_sounding (l : Launch) (b : Bw) (a1 : Int32) (S : St) : Ct l b yX12_sounding wsX12_sounding rmX12_sounding [.ref (bad b 12), .int a1] S mkI (f_X12_sounding a1 S) := Ct.of (by decide +kernel) rfl (Nat.le_of_ble_eq_true rfl) (fun X C hl hb r h => by
  subst hl; subst hb
  exact s_X12_sounding_b0 C a1 S h)
/-! StyleRowsModel.span(II)I -/
set_option maxRecDepth 100000 in
set_option maxHeartbeats 4000000 in
theorem s_X12_span_b20 {X : MC} (C : Cx X cX12_span RX12 wsX12_span 8 rmX12_span (some .int)) (S : St) {r0 : Int32 × St} (h : f_X12_span_b20 S = some r0) : G X (QM mkI X r0) S 20 [] [] := by
  unfold f_X12_span_b20 at h
  refine g_sipush (pc := 20) (v := (-1001)) C dX12_span_20 (by decide) ?_
  exact g_iret (pc := 23) C h dX12_span_23
set_option maxRecDepth 100000 in
set_option maxHeartbeats 4000000 in
theorem s_X12_span_b170 {X : MC} (C : Cx X cX12_span RX12 wsX12_span 8 rmX12_span (some .int)) (w0 : Int32) (S : St) {r0 : Int32 × St} (h : f_X12_span_b170 w0 S = some r0) : G X (QM mkI X r0) S 170 [] [.int w0] := by
  unfold f_X12_span_b170 at h
  exact g_iret (pc := 170) C h dX12_span_170
set_option maxRecDepth 100000 in
set_option maxHeartbeats 4000000 in
theorem s_X12_span_b144 {X : MC} (C : Cx X cX12_span RX12 wsX12_span 8 rmX12_span (some .int)) {rec35 : Int32 × Int32 × Int32 × Int32 × St → Option (Int32 × St)} (v1 : Int32) (v2 : Int32) (v3 : Int32) (v4 : Int32) (v5 : Int32) (v6 : Int32) (hrec35 : ∀ (s : Int32 × Int32 × Int32 × Int32 × St) (r : Int32 × St), rec35 s = some r → G X (QM mkI X r) s.2.2.2.2 35 [(0, .ref (ad X 12)), (1, .int v1), (2, .int v2), (3, .int (s.1)), (4, .int (s.2.1)), (5, .int (s.2.2.1)), (6, .int (s.2.2.2.1))] []) (S : St) {r0 : Int32 × St} (h : f_X12_span_b144 rec35 v1 v2 v3 v4 v5 v6 S = some r0) : G X (QM mkI X r0) S 144 [(0, .ref (ad X 12)), (1, .int v1), (2, .int v2), (3, .int v3), (4, .int v4), (5, .int v5), (6, .int v6)] [] := by
  unfold f_X12_span_b144 at h
  refine g_iinc (pc := 144) (v := v6 + 1) C [(6, .int (v6 + 1)), (0, .ref (ad X 12)), (1, .int v1), (2, .int v2), (3, .int v3), (4, .int v4), (5, .int v5)] dX12_span_144 6 rfl rfl (Nat.le_of_ble_eq_true rfl) rfl ?_
  refine g_goto (pc := 147) (tgt := 35) C dX12_span_147 (by decide) ?_
  refine g_weak (lv1 := [(0, .ref (ad X 12)), (1, .int v1), (2, .int v2), (3, .int v3), (4, .int v4), (5, .int v5), (6, .int (v6 + 1))]) [1, 2, 3, 4, 5, 6, 0] rfl ?_
  exact hrec35 (v3, v4, v5, v6 + 1, S) _ h
set_option maxRecDepth 100000 in
set_option maxHeartbeats 4000000 in
theorem s_X12_span_b139 {X : MC} (C : Cx X cX12_span RX12 wsX12_span 8 rmX12_span (some .int)) {rec35 : Int32 × Int32 × Int32 × Int32 × St → Option (Int32 × St)} (v1 : Int32) (v2 : Int32) (v3 : Int32) (v4 : Int32) (v6 : Int32) (w0 : Int32) (hrec35 : ∀ (s : Int32 × Int32 × Int32 × Int32 × St) (r : Int32 × St), rec35 s = some r → G X (QM mkI X r) s.2.2.2.2 35 [(0, .ref (ad X 12)), (1, .int v1), (2, .int v2), (3, .int (s.1)), (4, .int (s.2.1)), (5, .int (s.2.2.1)), (6, .int (s.2.2.2.1))] []) (S : St) {r0 : Int32 × St} (h : f_X12_span_b139 rec35 v1 v2 v3 v4 v6 w0 S = some r0) : G X (QM mkI X r0) S 139 [(0, .ref (ad X 12)), (1, .int v1), (2, .int v2), (3, .int v3), (4, .int v4), (6, .int v6)] [.int w0] := by
  unfold f_X12_span_b139 at h
  refine g_istore (pc := 139) C [(5, .int w0), (0, .ref (ad X 12)), (1, .int v1), (2, .int v2), (3, .int v3), (4, .int v4), (6, .int v6)] dX12_span_139 (Nat.le_of_ble_eq_true rfl) rfl ?_
  refine g_iinc (pc := 141) (v := v3 + 1) C [(3, .int (v3 + 1)), (5, .int w0), (0, .ref (ad X 12)), (1, .int v1), (2, .int v2), (4, .int v4), (6, .int v6)] dX12_span_141 4 rfl rfl (Nat.le_of_ble_eq_true rfl) rfl ?_
  refine g_weak (lv1 := [(0, .ref (ad X 12)), (1, .int v1), (2, .int v2), (3, .int (v3 + 1)), (4, .int v4), (5, .int w0), (6, .int v6)]) [2, 3, 4, 0, 5, 1, 6] rfl ?_
  exact s_X12_span_b144 C v1 v2 (v3 + 1) v4 w0 v6 hrec35  S h
set_option maxRecDepth 100000 in
set_option maxHeartbeats 4000000 in
theorem s_X12_span_b132 {X : MC} (C : Cx X cX12_span RX12 wsX12_span 8 rmX12_span (some .int)) {rec35 : Int32 × Int32 × Int32 × Int32 × St → Option (Int32 × St)} (v1 : Int32) (v2 : Int32) (v3 : Int32) (v4 : Int32) (v6 : Int32) (v7 : Int32) (hrec35 : ∀ (s : Int32 × Int32 × Int32 × Int32 × St) (r : Int32 × St), rec35 s = some r → G X (QM mkI X r) s.2.2.2.2 35 [(0, .ref (ad X 12)), (1, .int v1), (2, .int v2), (3, .int (s.1)), (4, .int (s.2.1)), (5, .int (s.2.2.1)), (6, .int (s.2.2.2.1))] []) (S : St) {r0 : Int32 × St} (h : f_X12_span_b132 rec35 v1 v2 v3 v4 v6 v7 S = some r0) : G X (QM mkI X r0) S 132 [(0, .ref (ad X 12)), (1, .int v1), (2, .int v2), (3, .int v3), (4, .int v4), (6, .int v6), (7, .int v7)] [] := by
  unfold f_X12_span_b132 at h
  refine g_iload (pc := 132) C dX12_span_132 6 rfl ?_
  refine g_goto (pc := 134) (tgt := 139) C dX12_span_134 (by decide) ?_
  refine g_weak (lv1 := [(0, .ref (ad X 12)), (1, .int v1), (2, .int v2), (3, .int v3), (4, .int v4), (6, .int v6)]) [0, 1, 2, 3, 4, 5] rfl ?_
  exact s_X12_span_b139 C v1 v2 v3 v4 v6 v7 hrec35  S h
set_option maxRecDepth 100000 in
set_option maxHeartbeats 4000000 in
theorem s_X12_span_b119 {X : MC} (C : Cx X cX12_span RX12 wsX12_span 8 rmX12_span (some .int)) {rec35 : Int32 × Int32 × Int32 × Int32 × St → Option (Int32 × St)} (v1 : Int32) (v2 : Int32) (v3 : Int32) (v5 : Int32) (v6 : Int32) (v7 : Int32) (w0 : Int32) (hrec35 : ∀ (s : Int32 × Int32 × Int32 × Int32 × St) (r : Int32 × St), rec35 s = some r → G X (QM mkI X r) s.2.2.2.2 35 [(0, .ref (ad X 12)), (1, .int v1), (2, .int v2), (3, .int (s.1)), (4, .int (s.2.1)), (5, .int (s.2.2.1)), (6, .int (s.2.2.2.1))] []) (S : St) {r0 : Int32 × St} (h : f_X12_span_b119 rec35 v1 v2 v3 v5 v6 v7 w0 S = some r0) : G X (QM mkI X r0) S 119 [(0, .ref (ad X 12)), (1, .int v1), (2, .int v2), (3, .int v3), (5, .int v5), (6, .int v6), (7, .int v7)] [.int w0] := by
  unfold f_X12_span_b119 at h
  refine g_istore (pc := 119) C [(4, .int w0), (0, .ref (ad X 12)), (1, .int v1), (2, .int v2), (3, .int v3), (5, .int v5), (6, .int v6), (7, .int v7)] dX12_span_119 (Nat.le_of_ble_eq_true rfl) rfl ?_
  refine g_iload_n (pc := 121) C dX12_span_121 rfl 4 rfl ?_
  refine g_if_eq (pc := 122) (tgt := 132) C h dX12_span_122 (by decide) (fun h => ?_) (fun h => ?_)
  · refine g_weak (lv1 := [(0, .ref (ad X 12)), (1, .int v1), (2, .int v2), (3, .int v3), (4, .int w0), (6, .int v6), (7, .int v7)]) [1, 2, 3, 4, 0, 6, 7] rfl ?_
    exact s_X12_span_b132 C v1 v2 v3 w0 v6 v7 hrec35  S h
  · refine g_iload (pc := 125) C dX12_span_125 7 rfl ?_
    refine g_iload (pc := 127) C dX12_span_127 5 rfl ?_
    refine g_icmp_le (pc := 129) (tgt := 137) C h dX12_span_129 (by decide) (fun h => ?_) (fun h => ?_)
    · refine g_iload (pc := 137) C dX12_span_137 5 rfl ?_
      refine g_weak (lv1 := [(0, .ref (ad X 12)), (1, .int v1), (2, .int v2), (3, .int v3), (4, .int w0), (6, .int v6)]) [1, 2, 3, 4, 0, 6] rfl ?_
      exact s_X12_span_b139 C v1 v2 v3 w0 v6 v5 hrec35  S h
    · refine g_weak (lv1 := [(0, .ref (ad X 12)), (1, .int v1), (2, .int v2), (3, .int v3), (4, .int w0), (6, .int v6), (7, .int v7)]) [1, 2, 3, 4, 0, 6, 7] rfl ?_
      exact s_X12_span_b132 C v1 v2 v3 w0 v6 v7 hrec35  S h
set_option maxRecDepth 100000 in
set_option maxHeartbeats 4000000 in
theorem s_X12_span_b104 {X : MC} (C : Cx X cX12_span RX12 wsX12_span 8 rmX12_span (some .int)) {rec35 : Int32 × Int32 × Int32 × Int32 × St → Option (Int32 × St)} (v1 : Int32) (v2 : Int32) (v3 : Int32) (v5 : Int32) (v6 : Int32) (v7 : Int32) (hrec35 : ∀ (s : Int32 × Int32 × Int32 × Int32 × St) (r : Int32 × St), rec35 s = some r → G X (QM mkI X r) s.2.2.2.2 35 [(0, .ref (ad X 12)), (1, .int v1), (2, .int v2), (3, .int (s.1)), (4, .int (s.2.1)), (5, .int (s.2.2.1)), (6, .int (s.2.2.2.1))] []) (S : St) {r0 : Int32 × St} (h : f_X12_span_b104 rec35 v1 v2 v3 v5 v6 v7 S = some r0) : G X (QM mkI X r0) S 104 [(0, .ref (ad X 12)), (1, .int v1), (2, .int v2), (3, .int v3), (5, .int v5), (6, .int v6), (7, .int v7)] [] := by
  unfold f_X12_span_b104 at h
  refine g_aload_n (pc := 104) C dX12_span_104 rfl 0 rfl ?_
  refine g_get (pc := 105) C 12 (w_12 _ _) rfl 31 (Nat.le_of_ble_eq_true rfl) in_X12_X12_span k69_X12_span rfl dX12_span_105 ?_
  refine g_bipush (pc := 108) (v := 6) C dX12_span_108 (by decide) ?_
  refine g_iload (pc := 110) C dX12_span_110 5 rfl ?_
  refine g_imul (pc := 112) C dX12_span_112 ?_
  refine g_iald (pc := 113) C 66 (w_66 _ _) h dX12_span_113 (fun h => ?_)
  refine g_goto (pc := 114) (tgt := 119) C dX12_span_114 (by decide) ?_
  refine g_weak (lv1 := [(0, .ref (ad X 12)), (1, .int v1), (2, .int v2), (3, .int v3), (5, .int v5), (6, .int v6), (7, .int v7)]) [0, 1, 2, 3, 4, 5, 6] rfl ?_
  exact s_X12_span_b119 C v1 v2 v3 v5 v6 v7 (rd S 66 (6 * v6)) hrec35  S h
set_option maxRecDepth 100000 in
set_option maxHeartbeats 4000000 in
theorem s_X12_span_b35 {X : MC} (C : Cx X cX12_span RX12 wsX12_span 8 rmX12_span (some .int)) {rec35 : Int32 × Int32 × Int32 × Int32 × St → Option (Int32 × St)} (v1 : Int32) (v2 : Int32) (v3 : Int32) (v4 : Int32) (v5 : Int32) (v6 : Int32) (hrec35 : ∀ (s : Int32 × Int32 × Int32 × Int32 × St) (r : Int32 × St), rec35 s = some r → G X (QM mkI X r) s.2.2.2.2 35 [(0, .ref (ad X 12)), (1, .int v1), (2, .int v2), (3, .int (s.1)), (4, .int (s.2.1)), (5, .int (s.2.2.1)), (6, .int (s.2.2.2.1))] []) (S : St) {r0 : Int32 × St} (h : f_X12_span_b35 rec35 v1 v2 v3 v4 v5 v6 S = some r0) : G X (QM mkI X r0) S 35 [(0, .ref (ad X 12)), (1, .int v1), (2, .int v2), (3, .int v3), (4, .int v4), (5, .int v5), (6, .int v6)] [] := by
  unfold f_X12_span_b35 at h
  refine g_iload (pc := 35) C dX12_span_35 6 rfl ?_
  refine g_aload_n (pc := 37) C dX12_span_37 rfl 0 rfl ?_
  refine g_get (pc := 38) C 12 (w_12 _ _) rfl 30 (Nat.le_of_ble_eq_true rfl) in_X12_X12_span k257_X12_span rfl dX12_span_38 ?_
  refine g_icmp_ge (pc := 41) (tgt := 150) C h dX12_span_41 (by decide) (fun h => ?_) (fun h => ?_)
  · refine g_iload_n (pc := 150) C dX12_span_150 rfl 2 rfl ?_
    refine g_if_ne (pc := 151) (tgt := 158) C h dX12_span_151 (by decide) (fun h => ?_) (fun h => ?_)
    · refine g_iload_n (pc := 158) C dX12_span_158 rfl 2 rfl ?_
      refine g_iconst (pc := 159) (v := 1) C dX12_span_159 (by decide) ?_
      refine g_icmp_ne (pc := 160) (tgt := 168) C h dX12_span_160 (by decide) (fun h => ?_) (fun h => ?_)
      · refine g_iload (pc := 168) C dX12_span_168 5 rfl ?_
        refine g_weak (lv1 := []) [] rfl ?_
        exact s_X12_span_b170 C v5  S h
      · refine g_iload (pc := 163) C dX12_span_163 4 rfl ?_
        refine g_goto (pc := 165) (tgt := 170) C dX12_span_165 (by decide) ?_
        refine g_weak (lv1 := []) [] rfl ?_
        exact s_X12_span_b170 C v4  S h
    · refine g_iload_n (pc := 154) C dX12_span_154 rfl 3 rfl ?_
      refine g_goto (pc := 155) (tgt := 170) C dX12_span_155 (by decide) ?_
      refine g_weak (lv1 := []) [] rfl ?_
      exact s_X12_span_b170 C v3  S h
  · refine g_aload_n (pc := 44) C dX12_span_44 rfl 0 rfl ?_
    refine g_get (pc := 45) C 12 (w_12 _ _) rfl 31 (Nat.le_of_ble_eq_true rfl) in_X12_X12_span k69_X12_span rfl dX12_span_45 ?_
    refine g_bipush (pc := 48) (v := 6) C dX12_span_48 (by decide) ?_
    refine g_iload (pc := 50) C dX12_span_50 6 rfl ?_
    refine g_imul (pc := 52) C dX12_span_52 ?_
    refine g_iconst (pc := 53) (v := 4) C dX12_span_53 (by decide) ?_
    refine g_iadd (pc := 54) C dX12_span_54 ?_
    refine g_iald (pc := 55) C 66 (w_66 _ _) h dX12_span_55 (fun h => ?_)
    refine g_iload_n (pc := 56) C dX12_span_56 rfl 1 rfl ?_
    refine g_icmp_ne (pc := 57) (tgt := 144) C h dX12_span_57 (by decide) (fun h => ?_) (fun h => ?_)
    · refine g_weak (lv1 := [(0, .ref (ad X 12)), (1, .int v1), (2, .int v2), (3, .int v3), (4, .int v4), (5, .int v5), (6, .int v6)]) [0, 1, 2, 3, 4, 5, 6] rfl ?_
      exact s_X12_span_b144 C v1 v2 v3 v4 v5 v6 hrec35  S h
    · refine g_aload_n (pc := 60) C dX12_span_60 rfl 0 rfl ?_
      refine g_get (pc := 61) C 12 (w_12 _ _) rfl 31 (Nat.le_of_ble_eq_true rfl) in_X12_X12_span k69_X12_span rfl dX12_span_61 ?_
      refine g_bipush (pc := 64) (v := 6) C dX12_span_64 (by decide) ?_
      refine g_iload (pc := 66) C dX12_span_66 6 rfl ?_
      refine g_imul (pc := 68) C dX12_span_68 ?_
      refine g_iald (pc := 69) C 66 (w_66 _ _) h dX12_span_69 (fun h => ?_)
      refine g_aload_n (pc := 70) C dX12_span_70 rfl 0 rfl ?_
      refine g_get (pc := 71) C 12 (w_12 _ _) rfl 31 (Nat.le_of_ble_eq_true rfl) in_X12_X12_span k69_X12_span rfl dX12_span_71 ?_
      refine g_bipush (pc := 74) (v := 6) C dX12_span_74 (by decide) ?_
      refine g_iload (pc := 76) C dX12_span_76 6 rfl ?_
      refine g_imul (pc := 78) C dX12_span_78 ?_
      refine g_iconst (pc := 79) (v := 1) C dX12_span_79 (by decide) ?_
      refine g_iadd (pc := 80) C dX12_span_80 ?_
      refine g_iald (pc := 81) C 66 (w_66 _ _) h dX12_span_81 (fun h => ?_)
      refine g_iadd (pc := 82) C dX12_span_82 ?_
      refine g_leti h (fun x5 h => ?_)
      refine g_istore (pc := 83) C [(7, .int x5), (0, .ref (ad X 12)), (1, .int v1), (2, .int v2), (3, .int v3), (4, .int v4), (5, .int v5), (6, .int v6)] dX12_span_83 (Nat.le_of_ble_eq_true rfl) rfl ?_
      refine g_iload_n (pc := 85) C dX12_span_85 rfl 4 rfl ?_
      refine g_if_eq (pc := 86) (tgt := 104) C h dX12_span_86 (by decide) (fun h => ?_) (fun h => ?_)
      · refine g_weak (lv1 := [(0, .ref (ad X 12)), (1, .int v1), (2, .int v2), (3, .int v3), (5, .int v5), (6, .int v6), (7, .int x5)]) [1, 2, 3, 4, 6, 7, 0] rfl ?_
        exact s_X12_span_b104 C v1 v2 v3 v5 v6 x5 hrec35  S h
      · refine g_aload_n (pc := 89) C dX12_span_89 rfl 1 rfl ?_
        refine g_get (pc := 90) C 12 (w_12 _ _) rfl 31 (Nat.le_of_ble_eq_true rfl) in_X12_X12_span k69_X12_span rfl dX12_span_90 ?_
        refine g_bipush (pc := 93) (v := 6) C dX12_span_93 (by decide) ?_
        refine g_iload (pc := 95) C dX12_span_95 7 rfl ?_
        refine g_imul (pc := 97) C dX12_span_97 ?_
        refine g_iald (pc := 98) C 66 (w_66 _ _) h dX12_span_98 (fun h => ?_)
        refine g_iload (pc := 99) C dX12_span_99 5 rfl ?_
        refine g_icmp_ge (pc := 101) (tgt := 117) C h dX12_span_101 (by decide) (fun h => ?_) (fun h => ?_)
        · refine g_iload (pc := 117) C dX12_span_117 5 rfl ?_
          refine g_weak (lv1 := [(0, .ref (ad X 12)), (1, .int v1), (2, .int v2), (3, .int v3), (5, .int v5), (6, .int v6), (7, .int x5)]) [1, 2, 3, 4, 6, 7, 0] rfl ?_
          exact s_X12_span_b119 C v1 v2 v3 v5 v6 x5 v4 hrec35  S h
        · refine g_weak (lv1 := [(0, .ref (ad X 12)), (1, .int v1), (2, .int v2), (3, .int v3), (5, .int v5), (6, .int v6), (7, .int x5)]) [1, 2, 3, 4, 6, 7, 0] rfl ?_
          exact s_X12_span_b104 C v1 v2 v3 v5 v6 x5 hrec35  S h
set_option maxRecDepth 100000 in
set_option maxHeartbeats 4000000 in
theorem s_X12_span_l35 {X : MC} (C : Cx X cX12_span RX12 wsX12_span 8 rmX12_span (some .int)) (v1 : Int32) (v2 : Int32) : ∀ (n : Nat) (s : Int32 × Int32 × Int32 × Int32 × St) (r : Int32 × St), f_X12_span_l35 v1 v2 n s = some r → G X (QM mkI X r) s.2.2.2.2 35 [(0, .ref (ad X 12)), (1, .int v1), (2, .int v2), (3, .int (s.1)), (4, .int (s.2.1)), (5, .int (s.2.2.1)), (6, .int (s.2.2.2.1))] [] :=
  loop_sound (fun rec35 hrec35 s r h => s_X12_span_b35 C v1 v2 s.1 s.2.1 s.2.2.1 s.2.2.2.1 hrec35 s.2.2.2.2 h)
set_option maxRecDepth 100000 in
set_option maxHeartbeats 4000000 in
theorem s_X12_span_b0 {X : MC} (C : Cx X cX12_span RX12 wsX12_span 8 rmX12_span (some .int)) (a1 : Int32) (a2 : Int32) (S : St) {r0 : Int32 × St} (h : f_X12_span_b0 a1 a2 S = some r0) : G X (QM mkI X r0) S 0 [(0, .ref (ad X 12)), (1, .int a1), (2, .int a2)] [] := by
  unfold f_X12_span_b0 at h
  refine g_aload_n (pc := 0) C dX12_span_0 rfl 0 rfl ?_
  refine g_iload_n (pc := 1) C dX12_span_1 rfl 1 rfl ?_
  refine g_callV (pc := 2) C 12 (c_X12_isNote (Xl X) (Xb X) a1 S) gX12_span_X12_isNote rfl rfl rfl hd_X12_isNote ⟨Nat.le_of_ble_eq_true rfl, Nat.le_of_ble_eq_true rfl⟩ (w_12 _ _) rfl rfl rfl (Nat.le_of_ble_eq_true rfl) dX12_span_2 h (fun r2 S1 h => ?_)
  change G X _ S1 5 [(0, .ref (ad X 12)), (1, .int a1), (2, .int a2)] [.int r2]
  refine g_if_eq (pc := 5) (tgt := 20) C h dX12_span_5 (by decide) (fun h => ?_) (fun h => ?_)
  · refine g_weak (lv1 := []) [] rfl ?_
    exact s_X12_span_b20 C   S1 h
  · refine g_iload_n (pc := 8) C dX12_span_8 rfl 2 rfl ?_
    refine g_i2l (pc := 9) C dX12_span_9 ?_
    refine g_lconst (pc := 10) (v := 0) C dX12_span_10 (by decide) ?_
    refine g_ldc2 (pc := 11) (v := 2) C k228_X12_span dX12_span_11 ?_
    refine g_callS (pc := 14) C (c_X12_in (Xl X) (Xb X) (Int32.toInt64 a2) 0 2 S1) gX12_span_X12_in rfl rfl rfl hd_X12_in ⟨Nat.le_of_ble_eq_true rfl, Nat.le_of_ble_eq_true rfl⟩ rfl rfl (Nat.le_of_ble_eq_true rfl) dX12_span_14 h (fun r4 S3 h => ?_)
    change G X _ S3 17 [(0, .ref (ad X 12)), (1, .int a1), (2, .int a2)] [.int r4]
    refine g_if_ne (pc := 17) (tgt := 24) C h dX12_span_17 (by decide) (fun h => ?_) (fun h => ?_)
    · refine g_iconst (pc := 24) (v := 0) C dX12_span_24 (by decide) ?_
      refine g_istore_n (pc := 25) C [(3, .int 0), (0, .ref (ad X 12)), (1, .int a1), (2, .int a2)] dX12_span_25 rfl (Nat.le_of_ble_eq_true rfl) rfl ?_
      refine g_iconst (pc := 26) (v := (-1)) C dX12_span_26 (by decide) ?_
      refine g_istore (pc := 27) C [(4, .int (-1)), (3, .int 0), (0, .ref (ad X 12)), (1, .int a1), (2, .int a2)] dX12_span_27 (Nat.le_of_ble_eq_true rfl) rfl ?_
      refine g_iconst (pc := 29) (v := (-1)) C dX12_span_29 (by decide) ?_
      refine g_istore (pc := 30) C [(5, .int (-1)), (4, .int (-1)), (3, .int 0), (0, .ref (ad X 12)), (1, .int a1), (2, .int a2)] dX12_span_30 (Nat.le_of_ble_eq_true rfl) rfl ?_
      refine g_iconst (pc := 32) (v := 0) C dX12_span_32 (by decide) ?_
      refine g_istore (pc := 33) C [(6, .int 0), (5, .int (-1)), (4, .int (-1)), (3, .int 0), (0, .ref (ad X 12)), (1, .int a1), (2, .int a2)] dX12_span_33 (Nat.le_of_ble_eq_true rfl) rfl ?_
      refine g_weak (lv1 := [(0, .ref (ad X 12)), (1, .int a1), (2, .int a2), (3, .int 0), (4, .int (-1)), (5, .int (-1)), (6, .int 0)]) [4, 5, 6, 3, 2, 1, 0] rfl ?_
      exact s_X12_span_l35 C a1 a2 _ (0, (-1), (-1), 0, S3) _ h
    · refine g_weak (lv1 := []) [] rfl ?_
      exact s_X12_span_b20 C   S3 h
theorem c_X12_span (l : Launch) (b : Bw) (a1 : Int32) (a2 : Int32) (S : St) : Ct l b yX12_span wsX12_span rmX12_span [.ref (bad b 12), .int a1, .int a2] S mkI (f_X12_span a1 a2 S) := Ct.of (by decide +kernel) rfl (Nat.le_of_ble_eq_true rfl) (fun X C hl hb r h => by
  subst hl; subst hb
  exact s_X12_span_b0 C a1 a2 S h)
/-! StyleRowsModel.count(I)I -/
set_option maxRecDepth 100000 in
set_option maxHeartbeats 4000000 in
theorem s_X12_count_b74 {X : MC} (C : Cx X cX12_count RX12 wsX12_count 2 rmX12_count (some .int)) (w0 : Int32) (S : St) {r0 : Int32 × St} (h : f_X12_count_b74 w0 S = some r0) : G X (QM mkI X r0) S 74 [] [.int w0] := by
  unfold f_X12_count_b74 at h
  exact g_iret (pc := 74) C h dX12_count_74
set_option maxRecDepth 100000 in
set_option maxHeartbeats 4000000 in
theorem s_X12_count_b0 {X : MC} (C : Cx X cX12_count RX12 wsX12_count 2 rmX12_count (some .int)) (a1 : Int32) (S : St) {r0 : Int32 × St} (h : f_X12_count_b0 a1 S = some r0) : G X (QM mkI X r0) S 0 [(0, .ref (ad X 12)), (1, .int a1)] [] := by
  unfold f_X12_count_b0 at h
  refine g_iload_n (pc := 0) C dX12_count_0 rfl 1 rfl ?_
  refine g_if_ne (pc := 1) (tgt := 11) C h dX12_count_1 (by decide) (fun h => ?_) (fun h => ?_)
  · refine g_iload_n (pc := 11) C dX12_count_11 rfl 1 rfl ?_
    refine g_iconst (pc := 12) (v := 1) C dX12_count_12 (by decide) ?_
    refine g_icmp_ne (pc := 13) (tgt := 23) C h dX12_count_13 (by decide) (fun h => ?_) (fun h => ?_)
    · refine g_iload_n (pc := 23) C dX12_count_23 rfl 1 rfl ?_
      refine g_iconst (pc := 24) (v := 2) C dX12_count_24 (by decide) ?_
      refine g_icmp_ne (pc := 25) (tgt := 35) C h dX12_count_25 (by decide) (fun h => ?_) (fun h => ?_)
      · refine g_iload_n (pc := 35) C dX12_count_35 rfl 1 rfl ?_
        refine g_iconst (pc := 36) (v := 3) C dX12_count_36 (by decide) ?_
        refine g_icmp_ne (pc := 37) (tgt := 47) C h dX12_count_37 (by decide) (fun h => ?_) (fun h => ?_)
        · refine g_iload_n (pc := 47) C dX12_count_47 rfl 1 rfl ?_
          refine g_iconst (pc := 48) (v := 4) C dX12_count_48 (by decide) ?_
          refine g_icmp_ne (pc := 49) (tgt := 59) C h dX12_count_49 (by decide) (fun h => ?_) (fun h => ?_)
          · refine g_iload_n (pc := 59) C dX12_count_59 rfl 1 rfl ?_
            refine g_iconst (pc := 60) (v := 5) C dX12_count_60 (by decide) ?_
            refine g_icmp_ne (pc := 61) (tgt := 71) C h dX12_count_61 (by decide) (fun h => ?_) (fun h => ?_)
            · refine g_sipush (pc := 71) (v := (-1001)) C dX12_count_71 (by decide) ?_
              refine g_weak (lv1 := []) [] rfl ?_
              exact s_X12_count_b74 C (-1001)  S h
            · refine g_aload_n (pc := 64) C dX12_count_64 rfl 0 rfl ?_
              refine g_get (pc := 65) C 12 (w_12 _ _) rfl 22 (Nat.le_of_ble_eq_true rfl) in_X12_X12_count k130_X12_count rfl dX12_count_65 ?_
              refine g_goto (pc := 68) (tgt := 74) C dX12_count_68 (by decide) ?_
              refine g_weak (lv1 := []) [] rfl ?_
              exact s_X12_count_b74 C (gI S 29)  S h
          · refine g_aload_n (pc := 52) C dX12_count_52 rfl 0 rfl ?_
            refine g_get (pc := 53) C 12 (w_12 _ _) rfl 30 (Nat.le_of_ble_eq_true rfl) in_X12_X12_count k257_X12_count rfl dX12_count_53 ?_
            refine g_goto (pc := 56) (tgt := 74) C dX12_count_56 (by decide) ?_
            refine g_weak (lv1 := []) [] rfl ?_
            exact s_X12_count_b74 C (gI S 34)  S h
        · refine g_aload_n (pc := 40) C dX12_count_40 rfl 0 rfl ?_
          refine g_get (pc := 41) C 12 (w_12 _ _) rfl 17 (Nat.le_of_ble_eq_true rfl) in_X12_X12_count k193_X12_count rfl dX12_count_41 ?_
          refine g_goto (pc := 44) (tgt := 74) C dX12_count_44 (by decide) ?_
          refine g_weak (lv1 := []) [] rfl ?_
          exact s_X12_count_b74 C (gI S 28)  S h
      · refine g_aload_n (pc := 28) C dX12_count_28 rfl 0 rfl ?_
        refine g_get (pc := 29) C 12 (w_12 _ _) rfl 13 (Nat.le_of_ble_eq_true rfl) in_X12_X12_count k108_X12_count rfl dX12_count_29 ?_
        refine g_goto (pc := 32) (tgt := 74) C dX12_count_32 (by decide) ?_
        refine g_weak (lv1 := []) [] rfl ?_
        exact s_X12_count_b74 C (gI S 27)  S h
    · refine g_aload_n (pc := 16) C dX12_count_16 rfl 0 rfl ?_
      refine g_get (pc := 17) C 12 (w_12 _ _) rfl 7 (Nat.le_of_ble_eq_true rfl) in_X12_X12_count k101_X12_count rfl dX12_count_17 ?_
      refine g_goto (pc := 20) (tgt := 74) C dX12_count_20 (by decide) ?_
      refine g_weak (lv1 := []) [] rfl ?_
      exact s_X12_count_b74 C (gI S 24)  S h
  · refine g_aload_n (pc := 4) C dX12_count_4 rfl 0 rfl ?_
    refine g_get (pc := 5) C 12 (w_12 _ _) rfl 1 (Nat.le_of_ble_eq_true rfl) in_X12_X12_count k92_X12_count rfl dX12_count_5 ?_
    refine g_goto (pc := 8) (tgt := 74) C dX12_count_8 (by decide) ?_
    refine g_weak (lv1 := []) [] rfl ?_
    exact s_X12_count_b74 C (gI S 23)  S h
theorem c_X12_count (l : Launch) (b : Bw) (a1 : Int32) (S : St) : Ct l b yX12_count wsX12_count rmX12_count [.ref (bad b 12), .int a1] S mkI (f_X12_count a1 S) := Ct.of (by decide +kernel) rfl (Nat.le_of_ble_eq_true rfl) (fun X C hl hb r h => by
  subst hl; subst hb
  exact s_X12_count_b0 C a1 S h)
