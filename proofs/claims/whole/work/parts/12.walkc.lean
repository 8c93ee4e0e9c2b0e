/-! StyleRowsModel.in(JJJ)Z -/
set_option maxRecDepth 100000 in
set_option maxHeartbeats 4000000 in
theorem s_X12_in_b18 {X : MC} (C : Cx X cX12_in RX12 wsX12_in 6 rmX12_in (some .boolean)) (w0 : Int32) (S : St) {r0 : Int32 × St} (h : f_X12_in_b18 w0 S = some r0) : G X (QM mkI X r0) S 18 [] [.int w0] := by
  unfold f_X12_in_b18 at h
  exact g_zret (pc := 18) C h dX12_in_18
set_option maxRecDepth 100000 in
set_option maxHeartbeats 4000000 in
theorem s_X12_in_b17 {X : MC} (C : Cx X cX12_in RX12 wsX12_in 6 rmX12_in (some .boolean)) (S : St) {r0 : Int32 × St} (h : f_X12_in_b17 S = some r0) : G X (QM mkI X r0) S 17 [] [] := by
  unfold f_X12_in_b17 at h
  refine g_iconst (pc := 17) (v := 0) C dX12_in_17 (by decide) ?_
  refine g_weak (lv1 := []) [] rfl ?_
  exact s_X12_in_b18 C 0  S h
set_option maxRecDepth 100000 in
set_option maxHeartbeats 4000000 in
theorem s_X12_in_b0 {X : MC} (C : Cx X cX12_in RX12 wsX12_in 6 rmX12_in (some .boolean)) (a1 : Int64) (a2 : Int64) (a3 : Int64) (S : St) {r0 : Int32 × St} (h : f_X12_in_b0 a1 a2 a3 S = some r0) : G X (QM mkI X r0) S 0 [(0, .long a1), (2, .long a2), (4, .long a3)] [] := by
  unfold f_X12_in_b0 at h
  refine g_lload_n (pc := 0) C dX12_in_0 rfl 0 rfl ?_
  refine g_lload_n (pc := 1) C dX12_in_1 rfl 1 rfl ?_
  refine g_lcmp (pc := 2) C dX12_in_2 ?_
  refine g_if_lt (pc := 3) (tgt := 17) C h dX12_in_3 (by decide) (fun h => ?_) (fun h => ?_)
  · refine g_weak (lv1 := []) [] rfl ?_
    exact s_X12_in_b17 C   S h
  · refine g_lload_n (pc := 6) C dX12_in_6 rfl 0 rfl ?_
    refine g_lload (pc := 7) C dX12_in_7 2 rfl ?_
    refine g_lcmp (pc := 9) C dX12_in_9 ?_
    refine g_if_gt (pc := 10) (tgt := 17) C h dX12_in_10 (by decide) (fun h => ?_) (fun h => ?_)
    · refine g_weak (lv1 := []) [] rfl ?_
      exact s_X12_in_b17 C   S h
    · refine g_iconst (pc := 13) (v := 1) C dX12_in_13 (by decide) ?_
      refine g_goto (pc := 14) (tgt := 18) C dX12_in_14 (by decide) ?_
      refine g_weak (lv1 := []) [] rfl ?_
      exact s_X12_in_b18 C 1  S h
theorem c_X12_in (l : Launch) (b : Bw) (a1 : Int64) (a2 : Int64) (a3 : Int64) (S : St) : Ct l b yX12_in wsX12_in rmX12_in [.long a1, .long a2, .long a3] S mkI (f_X12_in a1 a2 a3 S) := Ct.of (by decide +kernel) rfl (Nat.le_of_ble_eq_true rfl) (fun X C hl hb r h => by
  subst hl; subst hb
  exact s_X12_in_b0 C a1 a2 a3 S h)
/-! StyleRowsModel.note(IIIII)I -/
set_option maxRecDepth 100000 in
set_option maxHeartbeats 4000000 in
theorem s_X12_note_b64 {X : MC} (C : Cx X cX12_note RX12 wsX12_note 6 rmX12_note (some .int)) (S : St) {r0 : Int32 × St} (h : f_X12_note_b64 S = some r0) : G X (QM mkI X r0) S 64 [] [] := by
  unfold f_X12_note_b64 at h
  refine g_sipush (pc := 64) (v := (-1002)) C dX12_note_64 (by decide) ?_
  exact g_iret (pc := 67) C h dX12_note_67
set_option maxRecDepth 100000 in
set_option maxHeartbeats 4000000 in
theorem s_X12_note_b0 {X : MC} (C : Cx X cX12_note RX12 wsX12_note 6 rmX12_note (some .int)) (a1 : Int32) (a2 : Int32) (a3 : Int32) (a4 : Int32) (a5 : Int32) (S : St) {r0 : Int32 × St} (h : f_X12_note_b0 a1 a2 a3 a4 a5 S = some r0) : G X (QM mkI X r0) S 0 [(0, .ref (ad X 12)), (1, .int a1), (2, .int a2), (3, .int a3), (4, .int a4), (5, .int a5)] [] := by
  unfold f_X12_note_b0 at h
  refine g_iload_n (pc := 0) C dX12_note_0 rfl 1 rfl ?_
  refine g_i2l (pc := 1) C dX12_note_1 ?_
  refine g_lconst (pc := 2) (v := 0) C dX12_note_2 (by decide) ?_
  refine g_ldc2 (pc := 3) (v := 3) C k76_X12_note dX12_note_3 ?_
  refine g_callS (pc := 6) C (c_X12_in (Xl X) (Xb X) (Int32.toInt64 a1) 0 3 S) gX12_note_X12_in rfl rfl rfl hd_X12_in ⟨Nat.le_of_ble_eq_true rfl, Nat.le_of_ble_eq_true rfl⟩ rfl rfl (Nat.le_of_ble_eq_true rfl) dX12_note_6 h (fun r2 S1 h => ?_)
  change G X _ S1 9 [(0, .ref (ad X 12)), (1, .int a1), (2, .int a2), (3, .int a3), (4, .int a4), (5, .int a5)] [.int r2]
  refine g_if_eq (pc := 9) (tgt := 64) C h dX12_note_9 (by decide) (fun h => ?_) (fun h => ?_)
  · refine g_weak (lv1 := []) [] rfl ?_
    exact s_X12_note_b64 C   S1 h
  · refine g_iload_n (pc := 12) C dX12_note_12 rfl 2 rfl ?_
    refine g_i2l (pc := 13) C dX12_note_13 ?_
    refine g_lconst (pc := 14) (v := 0) C dX12_note_14 (by decide) ?_
    refine g_ldc2 (pc := 15) (v := 9600) C k82_X12_note dX12_note_15 ?_
    refine g_callS (pc := 18) C (c_X12_in (Xl X) (Xb X) (Int32.toInt64 a2) 0 9600 S1) gX12_note_X12_in rfl rfl rfl hd_X12_in ⟨Nat.le_of_ble_eq_true rfl, Nat.le_of_ble_eq_true rfl⟩ rfl rfl (Nat.le_of_ble_eq_true rfl) dX12_note_18 h (fun r4 S3 h => ?_)
    change G X _ S3 21 [(0, .ref (ad X 12)), (1, .int a1), (2, .int a2), (3, .int a3), (4, .int a4), (5, .int a5)] [.int r4]
    refine g_if_eq (pc := 21) (tgt := 64) C h dX12_note_21 (by decide) (fun h => ?_) (fun h => ?_)
    · refine g_weak (lv1 := []) [] rfl ?_
      exact s_X12_note_b64 C   S3 h
    · refine g_iload_n (pc := 24) C dX12_note_24 rfl 3 rfl ?_
      refine g_i2l (pc := 25) C dX12_note_25 ?_
      refine g_lconst (pc := 26) (v := 1) C dX12_note_26 (by decide) ?_
      refine g_ldc2 (pc := 27) (v := 960) C k84_X12_note dX12_note_27 ?_
      refine g_callS (pc := 30) C (c_X12_in (Xl X) (Xb X) (Int32.toInt64 a3) 1 960 S3) gX12_note_X12_in rfl rfl rfl hd_X12_in ⟨Nat.le_of_ble_eq_true rfl, Nat.le_of_ble_eq_true rfl⟩ rfl rfl (Nat.le_of_ble_eq_true rfl) dX12_note_30 h (fun r6 S5 h => ?_)
      change G X _ S5 33 [(0, .ref (ad X 12)), (1, .int a1), (2, .int a2), (3, .int a3), (4, .int a4), (5, .int a5)] [.int r6]
      refine g_if_eq (pc := 33) (tgt := 64) C h dX12_note_33 (by decide) (fun h => ?_) (fun h => ?_)
      · refine g_weak (lv1 := []) [] rfl ?_
        exact s_X12_note_b64 C   S5 h
      · refine g_iload (pc := 36) C dX12_note_36 4 rfl ?_
        refine g_i2l (pc := 38) C dX12_note_38 ?_
        refine g_ldc2 (pc := 39) (v := 12) C k86_X12_note dX12_note_39 ?_
        refine g_ldc2 (pc := 42) (v := 115) C k88_X12_note dX12_note_42 ?_
        refine g_callS (pc := 45) C (c_X12_in (Xl X) (Xb X) (Int32.toInt64 a4) 12 115 S5) gX12_note_X12_in rfl rfl rfl hd_X12_in ⟨Nat.le_of_ble_eq_true rfl, Nat.le_of_ble_eq_true rfl⟩ rfl rfl (Nat.le_of_ble_eq_true rfl) dX12_note_45 h (fun r8 S7 h => ?_)
        change G X _ S7 48 [(0, .ref (ad X 12)), (1, .int a1), (2, .int a2), (3, .int a3), (4, .int a4), (5, .int a5)] [.int r8]
        refine g_if_eq (pc := 48) (tgt := 64) C h dX12_note_48 (by decide) (fun h => ?_) (fun h => ?_)
        · refine g_weak (lv1 := []) [] rfl ?_
          exact s_X12_note_b64 C   S7 h
        · refine g_iload (pc := 51) C dX12_note_51 5 rfl ?_
          refine g_i2l (pc := 53) C dX12_note_53 ?_
          refine g_lconst (pc := 54) (v := 0) C dX12_note_54 (by decide) ?_
          refine g_ldc2 (pc := 55) (v := 127) C k90_X12_note dX12_note_55 ?_
          refine g_callS (pc := 58) C (c_X12_in (Xl X) (Xb X) (Int32.toInt64 a5) 0 127 S7) gX12_note_X12_in rfl rfl rfl hd_X12_in ⟨Nat.le_of_ble_eq_true rfl, Nat.le_of_ble_eq_true rfl⟩ rfl rfl (Nat.le_of_ble_eq_true rfl) dX12_note_58 h (fun r10 S9 h => ?_)
          change G X _ S9 61 [(0, .ref (ad X 12)), (1, .int a1), (2, .int a2), (3, .int a3), (4, .int a4), (5, .int a5)] [.int r10]
          refine g_if_ne (pc := 61) (tgt := 68) C h dX12_note_61 (by decide) (fun h => ?_) (fun h => ?_)
          · refine g_aload_n (pc := 68) C dX12_note_68 rfl 0 rfl ?_
            refine g_get (pc := 69) C 12 (w_12 _ _) rfl 1 (Nat.le_of_ble_eq_true rfl) in_X12_X12_note k92_X12_note rfl dX12_note_69 ?_
            refine g_bipush (pc := 72) (v := 48) C dX12_note_72 (by decide) ?_
            refine g_icmp_ne (pc := 74) (tgt := 81) C h dX12_note_74 (by decide) (fun h => ?_) (fun h => ?_)
            · refine g_aload_n (pc := 81) C dX12_note_81 rfl 0 rfl ?_
              refine g_get (pc := 82) C 12 (w_12 _ _) rfl 2 (Nat.le_of_ble_eq_true rfl) in_X12_X12_note k7_X12_note rfl dX12_note_82 ?_
              refine g_aload_n (pc := 85) C dX12_note_85 rfl 0 rfl ?_
              refine g_get (pc := 86) C 12 (w_12 _ _) rfl 1 (Nat.le_of_ble_eq_true rfl) in_X12_X12_note k92_X12_note rfl dX12_note_86 ?_
              refine g_iload_n (pc := 89) C dX12_note_89 rfl 1 rfl ?_
              refine g_iast (pc := 90) C 49 (w_49 _ _) (ws_49 _ _) h dX12_note_90 (fun S11 h => ?_)
              refine g_aload_n (pc := 91) C dX12_note_91 rfl 0 rfl ?_
              refine g_get (pc := 92) C 12 (w_12 _ _) rfl 3 (Nat.le_of_ble_eq_true rfl) in_X12_X12_note k13_X12_note rfl dX12_note_92 ?_
              refine g_aload_n (pc := 95) C dX12_note_95 rfl 0 rfl ?_
              refine g_get (pc := 96) C 12 (w_12 _ _) rfl 1 (Nat.le_of_ble_eq_true rfl) in_X12_X12_note k92_X12_note rfl dX12_note_96 ?_
              refine g_iload_n (pc := 99) C dX12_note_99 rfl 2 rfl ?_
              refine g_iast (pc := 100) C 50 (w_50 _ _) (ws_50 _ _) h dX12_note_100 (fun S12 h => ?_)
              refine g_aload_n (pc := 101) C dX12_note_101 rfl 0 rfl ?_
              refine g_get (pc := 102) C 12 (w_12 _ _) rfl 4 (Nat.le_of_ble_eq_true rfl) in_X12_X12_note k16_X12_note rfl dX12_note_102 ?_
              refine g_aload_n (pc := 105) C dX12_note_105 rfl 0 rfl ?_
              refine g_get (pc := 106) C 12 (w_12 _ _) rfl 1 (Nat.le_of_ble_eq_true rfl) in_X12_X12_note k92_X12_note rfl dX12_note_106 ?_
              refine g_iload_n (pc := 109) C dX12_note_109 rfl 3 rfl ?_
              refine g_iast (pc := 110) C 51 (w_51 _ _) (ws_51 _ _) h dX12_note_110 (fun S13 h => ?_)
              refine g_aload_n (pc := 111) C dX12_note_111 rfl 0 rfl ?_
              refine g_get (pc := 112) C 12 (w_12 _ _) rfl 5 (Nat.le_of_ble_eq_true rfl) in_X12_X12_note k19_X12_note rfl dX12_note_112 ?_
              refine g_aload_n (pc := 115) C dX12_note_115 rfl 0 rfl ?_
              refine g_get (pc := 116) C 12 (w_12 _ _) rfl 1 (Nat.le_of_ble_eq_true rfl) in_X12_X12_note k92_X12_note rfl dX12_note_116 ?_
              refine g_iload (pc := 119) C dX12_note_119 4 rfl ?_
              refine g_iast (pc := 121) C 52 (w_52 _ _) (ws_52 _ _) h dX12_note_121 (fun S14 h => ?_)
              refine g_aload_n (pc := 122) C dX12_note_122 rfl 0 rfl ?_
              refine g_get (pc := 123) C 12 (w_12 _ _) rfl 6 (Nat.le_of_ble_eq_true rfl) in_X12_X12_note k22_X12_note rfl dX12_note_123 ?_
              refine g_aload_n (pc := 126) C dX12_note_126 rfl 0 rfl ?_
              refine g_get (pc := 127) C 12 (w_12 _ _) rfl 1 (Nat.le_of_ble_eq_true rfl) in_X12_X12_note k92_X12_note rfl dX12_note_127 ?_
              refine g_iload (pc := 130) C dX12_note_130 5 rfl ?_
              refine g_iast (pc := 132) C 53 (w_53 _ _) (ws_53 _ _) h dX12_note_132 (fun S15 h => ?_)
              refine g_aload_n (pc := 133) C dX12_note_133 rfl 0 rfl ?_
              refine g_dup (pc := 134) C dX12_note_134 rfl ?_
              refine g_get (pc := 135) C 12 (w_12 _ _) rfl 1 (Nat.le_of_ble_eq_true rfl) in_X12_X12_note k92_X12_note rfl dX12_note_135 ?_
              refine g_iconst (pc := 138) (v := 1) C dX12_note_138 (by decide) ?_
              refine g_iadd (pc := 139) C dX12_note_139 ?_
              refine g_put (pc := 140) C 12 (w_12 _ _) rfl 1 (Nat.le_of_ble_eq_true rfl) in_X12_X12_note tyX12_ok nmX12 k92_X12_note rfl rfl rfl (Nat.le_of_ble_eq_true rfl) (ws_12_1 _ _ _) dX12_note_140 h (fun S16 h => ?_)
              refine g_aload_n (pc := 143) C dX12_note_143 rfl 0 rfl ?_
              refine g_get (pc := 144) C 12 (w_12 _ _) rfl 1 (Nat.le_of_ble_eq_true rfl) in_X12_X12_note k92_X12_note rfl dX12_note_144 ?_
              refine g_iconst (pc := 147) (v := 1) C dX12_note_147 (by decide) ?_
              refine g_isub (pc := 148) C dX12_note_148 ?_
              exact g_iret (pc := 149) C h dX12_note_149
            · refine g_sipush (pc := 77) (v := (-1004)) C dX12_note_77 (by decide) ?_
              exact g_iret (pc := 80) C h dX12_note_80
          · refine g_weak (lv1 := []) [] rfl ?_
            exact s_X12_note_b64 C   S9 h
theorem c_X12_note (l : Launch) (b : Bw) (a1 : Int32) (a2 : Int32) (a3 : Int32) (a4 : Int32) (a5 : Int32) (S : St) : Ct l b yX12_note wsX12_note rmX12_note [.ref (bad b 12), .int a1, .int a2, .int a3, .int a4, .int a5] S mkI (f_X12_note a1 a2 a3 a4 a5 S) := Ct.of (by decide +kernel) rfl (Nat.le_of_ble_eq_true rfl) (fun X C hl hb r h => by
  subst hl; subst hb
  exact s_X12_note_b0 C a1 a2 a3 a4 a5 S h)
/-! StyleRowsModel.isNote(I)Z -/
set_option maxRecDepth 100000 in
set_option maxHeartbeats 4000000 in
theorem s_X12_isNote_b0 {X : MC} (C : Cx X cX12_isNote RX12 wsX12_isNote 2 rmX12_isNote (some .boolean)) (a1 : Int32) (S : St) {r0 : Int32 × St} (h : f_X12_isNote_b0 a1 S = some r0) : G X (QM mkI X r0) S 0 [(0, .ref (ad X 12)), (1, .int a1)] [] := by
  unfold f_X12_isNote_b0 at h
  refine g_iload_n (pc := 0) C dX12_isNote_0 rfl 1 rfl ?_
  refine g_i2l (pc := 1) C dX12_isNote_1 ?_
  refine g_lconst (pc := 2) (v := 0) C dX12_isNote_2 (by decide) ?_
  refine g_aload_n (pc := 3) C dX12_isNote_3 rfl 0 rfl ?_
  refine g_get (pc := 4) C 12 (w_12 _ _) rfl 1 (Nat.le_of_ble_eq_true rfl) in_X12_X12_isNote k92_X12_isNote rfl dX12_isNote_4 ?_
  refine g_iconst (pc := 7) (v := 1) C dX12_isNote_7 (by decide) ?_
  refine g_isub (pc := 8) C dX12_isNote_8 ?_
  refine g_i2l (pc := 9) C dX12_isNote_9 ?_
  refine g_callS (pc := 10) C (c_X12_in (Xl X) (Xb X) (Int32.toInt64 a1) 0 (Int32.toInt64 ((gI S 23) - 1)) S) gX12_isNote_X12_in rfl rfl rfl hd_X12_in ⟨Nat.le_of_ble_eq_true rfl, Nat.le_of_ble_eq_true rfl⟩ rfl rfl (Nat.le_of_ble_eq_true rfl) dX12_isNote_10 h (fun r2 S1 h => ?_)
  change G X _ S1 13 [(0, .ref (ad X 12)), (1, .int a1)] [.int r2]
  exact g_zret (pc := 13) C h dX12_isNote_13
theorem c_X12_isNote (l : Launch) (b : Bw) (a1 : Int32) (S : St) : Ct l b yX12_isNote wsX12_isNote rmX12_isNote [.ref (bad b 12), .int a1] S mkI (f_X12_isNote a1 S) := Ct.of (by decide +kernel) rfl (Nat.le_of_ble_eq_true rfl) (fun X C hl hb r h => by
  subst hl; subst hb
  exact s_X12_isNote_b0 C a1 S h)
/-! StyleRowsModel.mark(II)I -/
set_option maxRecDepth 100000 in
set_option maxHeartbeats 4000000 in
theorem s_X12_mark_b0 {X : MC} (C : Cx X cX12_mark RX12 wsX12_mark 4 rmX12_mark (some .int)) (a1 : Int32) (a2 : Int32) (S : St) {r0 : Int32 × St} (h : f_X12_mark_b0 a1 a2 S = some r0) : G X (QM mkI X r0) S 0 [(0, .ref (ad X 12)), (1, .int a1), (2, .int a2)] [] := by
  unfold f_X12_mark_b0 at h
  refine g_aload_n (pc := 0) C dX12_mark_0 rfl 0 rfl ?_
  refine g_iload_n (pc := 1) C dX12_mark_1 rfl 1 rfl ?_
  refine g_callV (pc := 2) C 12 (c_X12_isNote (Xl X) (Xb X) a1 S) gX12_mark_X12_isNote rfl rfl rfl hd_X12_isNote ⟨Nat.le_of_ble_eq_true rfl, Nat.le_of_ble_eq_true rfl⟩ (w_12 _ _) rfl rfl rfl (Nat.le_of_ble_eq_true rfl) dX12_mark_2 h (fun r2 S1 h => ?_)
  change G X _ S1 5 [(0, .ref (ad X 12)), (1, .int a1), (2, .int a2)] [.int r2]
  refine g_if_ne (pc := 5) (tgt := 12) C h dX12_mark_5 (by decide) (fun h => ?_) (fun h => ?_)
  · refine g_iload_n (pc := 12) C dX12_mark_12 rfl 2 rfl ?_
    refine g_i2l (pc := 13) C dX12_mark_13 ?_
    refine g_lconst (pc := 14) (v := 0) C dX12_mark_14 (by decide) ?_
    refine g_ldc2 (pc := 15) (v := 127) C k90_X12_mark dX12_mark_15 ?_
    refine g_callS (pc := 18) C (c_X12_in (Xl X) (Xb X) (Int32.toInt64 a2) 0 127 S1) gX12_mark_X12_in rfl rfl rfl hd_X12_in ⟨Nat.le_of_ble_eq_true rfl, Nat.le_of_ble_eq_true rfl⟩ rfl rfl (Nat.le_of_ble_eq_true rfl) dX12_mark_18 h (fun r4 S3 h => ?_)
    change G X _ S3 21 [(0, .ref (ad X 12)), (1, .int a1), (2, .int a2)] [.int r4]
    refine g_if_ne (pc := 21) (tgt := 28) C h dX12_mark_21 (by decide) (fun h => ?_) (fun h => ?_)
    · refine g_aload_n (pc := 28) C dX12_mark_28 rfl 0 rfl ?_
      refine g_get (pc := 29) C 12 (w_12 _ _) rfl 6 (Nat.le_of_ble_eq_true rfl) in_X12_X12_mark k22_X12_mark rfl dX12_mark_29 ?_
      refine g_iload_n (pc := 32) C dX12_mark_32 rfl 1 rfl ?_
      refine g_iald (pc := 33) C 53 (w_53 _ _) h dX12_mark_33 (fun h => ?_)
      refine g_leti h (fun x5 h => ?_)
      refine g_istore_n (pc := 34) C [(3, .int x5), (0, .ref (ad X 12)), (1, .int a1), (2, .int a2)] dX12_mark_34 rfl (Nat.le_of_ble_eq_true rfl) rfl ?_
      refine g_aload_n (pc := 35) C dX12_mark_35 rfl 1 rfl ?_
      refine g_get (pc := 36) C 12 (w_12 _ _) rfl 6 (Nat.le_of_ble_eq_true rfl) in_X12_X12_mark k22_X12_mark rfl dX12_mark_36 ?_
      refine g_iload_n (pc := 39) C dX12_mark_39 rfl 2 rfl ?_
      refine g_iload_n (pc := 40) C dX12_mark_40 rfl 3 rfl ?_
      refine g_iast (pc := 41) C 53 (w_53 _ _) (ws_53 _ _) h dX12_mark_41 (fun S6 h => ?_)
      refine g_iload_n (pc := 42) C dX12_mark_42 rfl 0 rfl ?_
      exact g_iret (pc := 43) C h dX12_mark_43
    · refine g_sipush (pc := 24) (v := (-1002)) C dX12_mark_24 (by decide) ?_
      exact g_iret (pc := 27) C h dX12_mark_27
  · refine g_sipush (pc := 8) (v := (-1001)) C dX12_mark_8 (by decide) ?_
    exact g_iret (pc := 11) C h dX12_mark_11
theorem c_X12_mark (l : Launch) (b : Bw) (a1 : Int32) (a2 : Int32) (S : St) : Ct l b yX12_mark wsX12_mark rmX12_mark [.ref (bad b 12), .int a1, .int a2] S mkI (f_X12_mark a1 a2 S) := Ct.of (by decide +kernel) rfl (Nat.le_of_ble_eq_true rfl) (fun X C hl hb r h => by
  subst hl; subst hb
  exact s_X12_mark_b0 C a1 a2 S h)
/-! StyleRowsModel.level(IIZ)I -/
set_option maxRecDepth 100000 in
set_option maxHeartbeats 4000000 in
theorem s_X12_level_b24 {X : MC} (C : Cx X cX12_level RX12 wsX12_level 6 rmX12_level (some .int)) (S : St) {r0 : Int32 × St} (h : f_X12_level_b24 S = some r0) : G X (QM mkI X r0) S 24 [] [] := by
  unfold f_X12_level_b24 at h
  refine g_sipush (pc := 24) (v := (-1002)) C dX12_level_24 (by decide) ?_
  exact g_iret (pc := 27) C h dX12_level_27
set_option maxRecDepth 100000 in
set_option maxHeartbeats 4000000 in
theorem s_X12_level_b110 {X : MC} (C : Cx X cX12_level RX12 wsX12_level 6 rmX12_level (some .int)) (v1 : Int32) (v2 : Int32) (v3 : Int32) (v4 : Int32) (S : St) {r0 : Int32 × St} (h : f_X12_level_b110 v1 v2 v3 v4 S = some r0) : G X (QM mkI X r0) S 110 [(0, .ref (ad X 12)), (1, .int v1), (2, .int v2), (3, .int v3), (4, .int v4)] [] := by
  unfold f_X12_level_b110 at h
  refine g_aload_n (pc := 110) C dX12_level_110 rfl 0 rfl ?_
  refine g_get (pc := 111) C 12 (w_12 _ _) rfl 8 (Nat.le_of_ble_eq_true rfl) in_X12_X12_level k25_X12_level rfl dX12_level_111 ?_
  refine g_iload (pc := 114) C dX12_level_114 4 rfl ?_
  refine g_iload_n (pc := 116) C dX12_level_116 rfl 1 rfl ?_
  refine g_iast (pc := 117) C 54 (w_54 _ _) (ws_54 _ _) h dX12_level_117 (fun S5 h => ?_)
  refine g_aload_n (pc := 118) C dX12_level_118 rfl 0 rfl ?_
  refine g_get (pc := 119) C 12 (w_12 _ _) rfl 9 (Nat.le_of_ble_eq_true rfl) in_X12_X12_level k28_X12_level rfl dX12_level_119 ?_
  refine g_iload (pc := 122) C dX12_level_122 4 rfl ?_
  refine g_iload_n (pc := 124) C dX12_level_124 rfl 2 rfl ?_
  refine g_iast (pc := 125) C 55 (w_55 _ _) (ws_55 _ _) h dX12_level_125 (fun S6 h => ?_)
  refine g_aload_n (pc := 126) C dX12_level_126 rfl 0 rfl ?_
  refine g_get (pc := 127) C 12 (w_12 _ _) rfl 10 (Nat.le_of_ble_eq_true rfl) in_X12_X12_level k31_X12_level rfl dX12_level_127 ?_
  refine g_iload (pc := 130) C dX12_level_130 4 rfl ?_
  refine g_iload_n (pc := 132) C dX12_level_132 rfl 3 rfl ?_
  refine g_zast (pc := 133) C 56 (w_56 _ _) (ws_56 _ _) h dX12_level_133 (fun S7 h => ?_)
  refine g_aload_n (pc := 134) C dX12_level_134 rfl 0 rfl ?_
  refine g_get (pc := 135) C 12 (w_12 _ _) rfl 7 (Nat.le_of_ble_eq_true rfl) in_X12_X12_level k101_X12_level rfl dX12_level_135 ?_
  exact g_iret (pc := 138) C h dX12_level_138
set_option maxRecDepth 100000 in
set_option maxHeartbeats 4000000 in
theorem s_X12_level_b88 {X : MC} (C : Cx X cX12_level RX12 wsX12_level 6 rmX12_level (some .int)) (v1 : Int32) (v2 : Int32) (v3 : Int32) (v4 : Int32) (S : St) {r0 : Int32 × St} (h : f_X12_level_b88 v1 v2 v3 v4 S = some r0) : G X (QM mkI X r0) S 88 [(0, .ref (ad X 12)), (1, .int v1), (2, .int v2), (3, .int v3), (4, .int v4)] [] := by
  unfold f_X12_level_b88 at h
  refine g_iload (pc := 88) C dX12_level_88 4 rfl ?_
  refine g_iconst (pc := 90) (v := (-1)) C dX12_level_90 (by decide) ?_
  refine g_icmp_ne (pc := 91) (tgt := 110) C h dX12_level_91 (by decide) (fun h => ?_) (fun h => ?_)
  · refine g_weak (lv1 := [(0, .ref (ad X 12)), (1, .int v1), (2, .int v2), (3, .int v3), (4, .int v4)]) [0, 1, 2, 3, 4] rfl ?_
    exact s_X12_level_b110 C v1 v2 v3 v4  S h
  · refine g_aload_n (pc := 94) C dX12_level_94 rfl 0 rfl ?_
    refine g_get (pc := 95) C 12 (w_12 _ _) rfl 7 (Nat.le_of_ble_eq_true rfl) in_X12_X12_level k101_X12_level rfl dX12_level_95 ?_
    refine g_leti h (fun x8 h => ?_)
    refine g_istore (pc := 98) C [(4, .int x8), (0, .ref (ad X 12)), (1, .int v1), (2, .int v2), (3, .int v3)] dX12_level_98 (Nat.le_of_ble_eq_true rfl) rfl ?_
    refine g_aload_n (pc := 100) C dX12_level_100 rfl 1 rfl ?_
    refine g_dup (pc := 101) C dX12_level_101 rfl ?_
    refine g_get (pc := 102) C 12 (w_12 _ _) rfl 7 (Nat.le_of_ble_eq_true rfl) in_X12_X12_level k101_X12_level rfl dX12_level_102 ?_
    refine g_iconst (pc := 105) (v := 1) C dX12_level_105 (by decide) ?_
    refine g_iadd (pc := 106) C dX12_level_106 ?_
    refine g_put (pc := 107) C 12 (w_12 _ _) rfl 7 (Nat.le_of_ble_eq_true rfl) in_X12_X12_level tyX12_ok nmX12 k101_X12_level rfl rfl rfl (Nat.le_of_ble_eq_true rfl) (ws_12_7 _ _ _) dX12_level_107 h (fun S9 h => ?_)
    refine g_weak (lv1 := [(0, .ref (ad X 12)), (1, .int v1), (2, .int v2), (3, .int v3), (4, .int x8)]) [1, 2, 3, 4, 0] rfl ?_
    exact s_X12_level_b110 C v1 v2 v3 x8  S9 h
set_option maxRecDepth 100000 in
set_option maxHeartbeats 4000000 in
theorem s_X12_level_b61 {X : MC} (C : Cx X cX12_level RX12 wsX12_level 6 rmX12_level (some .int)) {rec34 : Int32 × Int32 × St → Option (Int32 × St)} (v1 : Int32) (v2 : Int32) (v3 : Int32) (v5 : Int32) (w0 : Int32) (hrec34 : ∀ (s : Int32 × Int32 × St) (r : Int32 × St), rec34 s = some r → G X (QM mkI X r) s.2.2 34 [(0, .ref (ad X 12)), (1, .int v1), (2, .int v2), (3, .int v3), (4, .int (s.1)), (5, .int (s.2.1))] []) (S : St) {r0 : Int32 × St} (h : f_X12_level_b61 rec34 v1 v2 v3 v5 w0 S = some r0) : G X (QM mkI X r0) S 61 [(0, .ref (ad X 12)), (1, .int v1), (2, .int v2), (3, .int v3), (5, .int v5)] [.int w0] := by
  unfold f_X12_level_b61 at h
  refine g_istore (pc := 61) C [(4, .int w0), (0, .ref (ad X 12)), (1, .int v1), (2, .int v2), (3, .int v3), (5, .int v5)] dX12_level_61 (Nat.le_of_ble_eq_true rfl) rfl ?_
  refine g_iinc (pc := 63) (v := v5 + 1) C [(5, .int (v5 + 1)), (4, .int w0), (0, .ref (ad X 12)), (1, .int v1), (2, .int v2), (3, .int v3)] dX12_level_63 5 rfl rfl (Nat.le_of_ble_eq_true rfl) rfl ?_
  refine g_goto (pc := 66) (tgt := 34) C dX12_level_66 (by decide) ?_
  refine g_weak (lv1 := [(0, .ref (ad X 12)), (1, .int v1), (2, .int v2), (3, .int v3), (4, .int w0), (5, .int (v5 + 1))]) [2, 3, 4, 5, 1, 0] rfl ?_
  exact hrec34 (w0, v5 + 1, S) _ h
set_option maxRecDepth 100000 in
set_option maxHeartbeats 4000000 in
theorem s_X12_level_b34 {X : MC} (C : Cx X cX12_level RX12 wsX12_level 6 rmX12_level (some .int)) {rec34 : Int32 × Int32 × St → Option (Int32 × St)} (v1 : Int32) (v2 : Int32) (v3 : Int32) (v4 : Int32) (v5 : Int32) (hrec34 : ∀ (s : Int32 × Int32 × St) (r : Int32 × St), rec34 s = some r → G X (QM mkI X r) s.2.2 34 [(0, .ref (ad X 12)), (1, .int v1), (2, .int v2), (3, .int v3), (4, .int (s.1)), (5, .int (s.2.1))] []) (S : St) {r0 : Int32 × St} (h : f_X12_level_b34 rec34 v1 v2 v3 v4 v5 S = some r0) : G X (QM mkI X r0) S 34 [(0, .ref (ad X 12)), (1, .int v1), (2, .int v2), (3, .int v3), (4, .int v4), (5, .int v5)] [] := by
  unfold f_X12_level_b34 at h
  refine g_iload (pc := 34) C dX12_level_34 5 rfl ?_
  refine g_aload_n (pc := 36) C dX12_level_36 rfl 0 rfl ?_
  refine g_get (pc := 37) C 12 (w_12 _ _) rfl 7 (Nat.le_of_ble_eq_true rfl) in_X12_X12_level k101_X12_level rfl dX12_level_37 ?_
  refine g_icmp_ge (pc := 40) (tgt := 69) C h dX12_level_40 (by decide) (fun h => ?_) (fun h => ?_)
  · refine g_iload (pc := 69) C dX12_level_69 4 rfl ?_
    refine g_iconst (pc := 71) (v := (-1)) C dX12_level_71 (by decide) ?_
    refine g_icmp_ne (pc := 72) (tgt := 88) C h dX12_level_72 (by decide) (fun h => ?_) (fun h => ?_)
    · refine g_weak (lv1 := [(0, .ref (ad X 12)), (1, .int v1), (2, .int v2), (3, .int v3), (4, .int v4)]) [0, 1, 2, 3, 4] rfl ?_
      exact s_X12_level_b88 C v1 v2 v3 v4  S h
    · refine g_aload_n (pc := 75) C dX12_level_75 rfl 0 rfl ?_
      refine g_get (pc := 76) C 12 (w_12 _ _) rfl 7 (Nat.le_of_ble_eq_true rfl) in_X12_X12_level k101_X12_level rfl dX12_level_76 ?_
      refine g_bipush (pc := 79) (v := 12) C dX12_level_79 (by decide) ?_
      refine g_icmp_ne (pc := 81) (tgt := 88) C h dX12_level_81 (by decide) (fun h => ?_) (fun h => ?_)
      · refine g_weak (lv1 := [(0, .ref (ad X 12)), (1, .int v1), (2, .int v2), (3, .int v3), (4, .int v4)]) [0, 1, 2, 3, 4] rfl ?_
        exact s_X12_level_b88 C v1 v2 v3 v4  S h
      · refine g_sipush (pc := 84) (v := (-1004)) C dX12_level_84 (by decide) ?_
        exact g_iret (pc := 87) C h dX12_level_87
  · refine g_aload_n (pc := 43) C dX12_level_43 rfl 0 rfl ?_
    refine g_get (pc := 44) C 12 (w_12 _ _) rfl 8 (Nat.le_of_ble_eq_true rfl) in_X12_X12_level k25_X12_level rfl dX12_level_44 ?_
    refine g_iload (pc := 47) C dX12_level_47 5 rfl ?_
    refine g_iald (pc := 49) C 54 (w_54 _ _) h dX12_level_49 (fun h => ?_)
    refine g_iload_n (pc := 50) C dX12_level_50 rfl 1 rfl ?_
    refine g_icmp_ne (pc := 51) (tgt := 59) C h dX12_level_51 (by decide) (fun h => ?_) (fun h => ?_)
    · refine g_iload (pc := 59) C dX12_level_59 4 rfl ?_
      refine g_weak (lv1 := [(0, .ref (ad X 12)), (1, .int v1), (2, .int v2), (3, .int v3), (5, .int v5)]) [0, 1, 2, 3, 5] rfl ?_
      exact s_X12_level_b61 C v1 v2 v3 v5 v4 hrec34  S h
    · refine g_iload (pc := 54) C dX12_level_54 5 rfl ?_
      refine g_goto (pc := 56) (tgt := 61) C dX12_level_56 (by decide) ?_
      refine g_weak (lv1 := [(0, .ref (ad X 12)), (1, .int v1), (2, .int v2), (3, .int v3), (5, .int v5)]) [0, 1, 2, 3, 5] rfl ?_
      exact s_X12_level_b61 C v1 v2 v3 v5 v5 hrec34  S h
set_option maxRecDepth 100000 in
set_option maxHeartbeats 4000000 in
theorem s_X12_level_l34 {X : MC} (C : Cx X cX12_level RX12 wsX12_level 6 rmX12_level (some .int)) (v1 : Int32) (v2 : Int32) (v3 : Int32) : ∀ (n : Nat) (s : Int32 × Int32 × St) (r : Int32 × St), f_X12_level_l34 v1 v2 v3 n s = some r → G X (QM mkI X r) s.2.2 34 [(0, .ref (ad X 12)), (1, .int v1), (2, .int v2), (3, .int v3), (4, .int (s.1)), (5, .int (s.2.1))] [] :=
  loop_sound (fun rec34 hrec34 s r h => s_X12_level_b34 C v1 v2 v3 s.1 s.2.1 hrec34 s.2.2 h)
set_option maxRecDepth 100000 in
set_option maxHeartbeats 4000000 in
theorem s_X12_level_b0 {X : MC} (C : Cx X cX12_level RX12 wsX12_level 6 rmX12_level (some .int)) (a1 : Int32) (a2 : Int32) (a3 : Int32) (S : St) {r0 : Int32 × St} (h : f_X12_level_b0 a1 a2 a3 S = some r0) : G X (QM mkI X r0) S 0 [(0, .ref (ad X 12)), (1, .int a1), (2, .int a2), (3, .int a3)] [] := by
  unfold f_X12_level_b0 at h
  refine g_iload_n (pc := 0) C dX12_level_0 rfl 1 rfl ?_
  refine g_i2l (pc := 1) C dX12_level_1 ?_
  refine g_lconst (pc := 2) (v := 0) C dX12_level_2 (by decide) ?_
  refine g_ldc2 (pc := 3) (v := 20000) C k99_X12_level dX12_level_3 ?_
  refine g_callS (pc := 6) C (c_X12_in (Xl X) (Xb X) (Int32.toInt64 a1) 0 20000 S) gX12_level_X12_in rfl rfl rfl hd_X12_in ⟨Nat.le_of_ble_eq_true rfl, Nat.le_of_ble_eq_true rfl⟩ rfl rfl (Nat.le_of_ble_eq_true rfl) dX12_level_6 h (fun r2 S1 h => ?_)
  change G X _ S1 9 [(0, .ref (ad X 12)), (1, .int a1), (2, .int a2), (3, .int a3)] [.int r2]
  refine g_if_eq (pc := 9) (tgt := 24) C h dX12_level_9 (by decide) (fun h => ?_) (fun h => ?_)
  · refine g_weak (lv1 := []) [] rfl ?_
    exact s_X12_level_b24 C   S1 h
  · refine g_iload_n (pc := 12) C dX12_level_12 rfl 2 rfl ?_
    refine g_i2l (pc := 13) C dX12_level_13 ?_
    refine g_lconst (pc := 14) (v := 1) C dX12_level_14 (by decide) ?_
    refine g_ldc2 (pc := 15) (v := 127) C k90_X12_level dX12_level_15 ?_
    refine g_callS (pc := 18) C (c_X12_in (Xl X) (Xb X) (Int32.toInt64 a2) 1 127 S1) gX12_level_X12_in rfl rfl rfl hd_X12_in ⟨Nat.le_of_ble_eq_true rfl, Nat.le_of_ble_eq_true rfl⟩ rfl rfl (Nat.le_of_ble_eq_true rfl) dX12_level_18 h (fun r4 S3 h => ?_)
    change G X _ S3 21 [(0, .ref (ad X 12)), (1, .int a1), (2, .int a2), (3, .int a3)] [.int r4]
    refine g_if_ne (pc := 21) (tgt := 28) C h dX12_level_21 (by decide) (fun h => ?_) (fun h => ?_)
    · refine g_iconst (pc := 28) (v := (-1)) C dX12_level_28 (by decide) ?_
      refine g_istore (pc := 29) C [(4, .int (-1)), (0, .ref (ad X 12)), (1, .int a1), (2, .int a2), (3, .int a3)] dX12_level_29 (Nat.le_of_ble_eq_true rfl) rfl ?_
      refine g_iconst (pc := 31) (v := 0) C dX12_level_31 (by decide) ?_
      refine g_istore (pc := 32) C [(5, .int 0), (4, .int (-1)), (0, .ref (ad X 12)), (1, .int a1), (2, .int a2), (3, .int a3)] dX12_level_32 (Nat.le_of_ble_eq_true rfl) rfl ?_
      refine g_weak (lv1 := [(0, .ref (ad X 12)), (1, .int a1), (2, .int a2), (3, .int a3), (4, .int (-1)), (5, .int 0)]) [2, 3, 4, 5, 1, 0] rfl ?_
      exact s_X12_level_l34 C a1 a2 a3 _ ((-1), 0, S3) _ h
    · refine g_weak (lv1 := []) [] rfl ?_
      exact s_X12_level_b24 C   S3 h
theorem c_X12_level (l : Launch) (b : Bw) (a1 : Int32) (a2 : Int32) (a3 : Int32) (S : St) : Ct l b yX12_level wsX12_level rmX12_level [.ref (bad b 12), .int a1, .int a2, .int a3] S mkI (f_X12_level a1 a2 a3 S) := Ct.of (by decide +kernel) rfl (Nat.le_of_ble_eq_true rfl) (fun X C hl hb r h => by
  subst hl; subst hb
  exact s_X12_level_b0 C a1 a2 a3 S h)
/-! StyleRowsModel.meter(II)I -/
set_option maxRecDepth 100000 in
set_option maxHeartbeats 4000000 in
theorem s_X12_meter_b24 {X : MC} (C : Cx X cX12_meter RX12 wsX12_meter 3 rmX12_meter (some .int)) (S : St) {r0 : Int32 × St} (h : f_X12_meter_b24 S = some r0) : G X (QM mkI X r0) S 24 [] [] := by
  unfold f_X12_meter_b24 at h
  refine g_sipush (pc := 24) (v := (-1002)) C dX12_meter_24 (by decide) ?_
  exact g_iret (pc := 27) C h dX12_meter_27
set_option maxRecDepth 100000 in
set_option maxHeartbeats 4000000 in
theorem s_X12_meter_b0 {X : MC} (C : Cx X cX12_meter RX12 wsX12_meter 3 rmX12_meter (some .int)) (a1 : Int32) (a2 : Int32) (S : St) {r0 : Int32 × St} (h : f_X12_meter_b0 a1 a2 S = some r0) : G X (QM mkI X r0) S 0 [(0, .ref (ad X 12)), (1, .int a1), (2, .int a2)] [] := by
  unfold f_X12_meter_b0 at h
  refine g_iload_n (pc := 0) C dX12_meter_0 rfl 1 rfl ?_
  refine g_i2l (pc := 1) C dX12_meter_1 ?_
  refine g_lconst (pc := 2) (v := 1) C dX12_meter_2 (by decide) ?_
  refine g_ldc2 (pc := 3) (v := 12) C k86_X12_meter dX12_meter_3 ?_
  refine g_callS (pc := 6) C (c_X12_in (Xl X) (Xb X) (Int32.toInt64 a1) 1 12 S) gX12_meter_X12_in rfl rfl rfl hd_X12_in ⟨Nat.le_of_ble_eq_true rfl, Nat.le_of_ble_eq_true rfl⟩ rfl rfl (Nat.le_of_ble_eq_true rfl) dX12_meter_6 h (fun r2 S1 h => ?_)
  change G X _ S1 9 [(0, .ref (ad X 12)), (1, .int a1), (2, .int a2)] [.int r2]
  refine g_if_eq (pc := 9) (tgt := 24) C h dX12_meter_9 (by decide) (fun h => ?_) (fun h => ?_)
  · refine g_weak (lv1 := []) [] rfl ?_
    exact s_X12_meter_b24 C   S1 h
  · refine g_iload_n (pc := 12) C dX12_meter_12 rfl 2 rfl ?_
    refine g_i2l (pc := 13) C dX12_meter_13 ?_
    refine g_lconst (pc := 14) (v := 1) C dX12_meter_14 (by decide) ?_
    refine g_ldc2 (pc := 15) (v := 960) C k84_X12_meter dX12_meter_15 ?_
    refine g_callS (pc := 18) C (c_X12_in (Xl X) (Xb X) (Int32.toInt64 a2) 1 960 S1) gX12_meter_X12_in rfl rfl rfl hd_X12_in ⟨Nat.le_of_ble_eq_true rfl, Nat.le_of_ble_eq_true rfl⟩ rfl rfl (Nat.le_of_ble_eq_true rfl) dX12_meter_18 h (fun r4 S3 h => ?_)
    change G X _ S3 21 [(0, .ref (ad X 12)), (1, .int a1), (2, .int a2)] [.int r4]
    refine g_if_ne (pc := 21) (tgt := 28) C h dX12_meter_21 (by decide) (fun h => ?_) (fun h => ?_)
    · refine g_aload_n (pc := 28) C dX12_meter_28 rfl 0 rfl ?_
      refine g_iload_n (pc := 29) C dX12_meter_29 rfl 1 rfl ?_
      refine g_put (pc := 30) C 12 (w_12 _ _) rfl 11 (Nat.le_of_ble_eq_true rfl) in_X12_X12_meter tyX12_ok nmX12 k35_X12_meter rfl rfl rfl (Nat.le_of_ble_eq_true rfl) (ws_12_11 _ _ _) dX12_meter_30 h (fun S5 h => ?_)
      refine g_aload_n (pc := 33) C dX12_meter_33 rfl 0 rfl ?_
      refine g_iload_n (pc := 34) C dX12_meter_34 rfl 2 rfl ?_
      refine g_put (pc := 35) C 12 (w_12 _ _) rfl 12 (Nat.le_of_ble_eq_true rfl) in_X12_X12_meter tyX12_ok nmX12 k39_X12_meter rfl rfl rfl (Nat.le_of_ble_eq_true rfl) (ws_12_12 _ _ _) dX12_meter_35 h (fun S6 h => ?_)
      refine g_iconst (pc := 38) (v := 1) C dX12_meter_38 (by decide) ?_
      exact g_iret (pc := 39) C h dX12_meter_39
    · refine g_weak (lv1 := []) [] rfl ?_
      exact s_X12_meter_b24 C   S3 h
theorem c_X12_meter (l : Launch) (b : Bw) (a1 : Int32) (a2 : Int32) (S : St) : Ct l b yX12_meter wsX12_meter rmX12_meter [.ref (bad b 12), .int a1, .int a2] S mkI (f_X12_meter a1 a2 S) := Ct.of (by decide +kernel) rfl (Nat.le_of_ble_eq_true rfl) (fun X C hl hb r h => by
  subst hl; subst hb
  exact s_X12_meter_b0 C a1 a2 S h)
/-! StyleRowsModel.arc(III)I -/
set_option maxRecDepth 100000 in
set_option maxHeartbeats 4000000 in
theorem s_X12_arc_b30 {X : MC} (C : Cx X cX12_arc RX12 wsX12_arc 5 rmX12_arc (some .int)) (S : St) {r0 : Int32 × St} (h : f_X12_arc_b30 S = some r0) : G X (QM mkI X r0) S 30 [] [] := by
  unfold f_X12_arc_b30 at h
  refine g_sipush (pc := 30) (v := (-1002)) C dX12_arc_30 (by decide) ?_
  exact g_iret (pc := 33) C h dX12_arc_33
set_option maxRecDepth 100000 in
set_option maxHeartbeats 4000000 in
theorem s_X12_arc_b72 {X : MC} (C : Cx X cX12_arc RX12 wsX12_arc 5 rmX12_arc (some .int)) {rec37 : Int32 × St → Option (Int32 × St)} (v1 : Int32) (v2 : Int32) (v3 : Int32) (v4 : Int32) (hrec37 : ∀ (s : Int32 × St) (r : Int32 × St), rec37 s = some r → G X (QM mkI X r) s.2 37 [(0, .ref (ad X 12)), (1, .int v1), (2, .int v2), (3, .int v3), (4, .int (s.1))] []) (S : St) {r0 : Int32 × St} (h : f_X12_arc_b72 rec37 v1 v2 v3 v4 S = some r0) : G X (QM mkI X r0) S 72 [(0, .ref (ad X 12)), (1, .int v1), (2, .int v2), (3, .int v3), (4, .int v4)] [] := by
  unfold f_X12_arc_b72 at h
  refine g_iinc (pc := 72) (v := v4 + 1) C [(4, .int (v4 + 1)), (0, .ref (ad X 12)), (1, .int v1), (2, .int v2), (3, .int v3)] dX12_arc_72 4 rfl rfl (Nat.le_of_ble_eq_true rfl) rfl ?_
  refine g_goto (pc := 75) (tgt := 37) C dX12_arc_75 (by decide) ?_
  refine g_weak (lv1 := [(0, .ref (ad X 12)), (1, .int v1), (2, .int v2), (3, .int v3), (4, .int (v4 + 1))]) [1, 2, 3, 4, 0] rfl ?_
  exact hrec37 (v4 + 1, S) _ h
set_option maxRecDepth 100000 in
set_option maxHeartbeats 4000000 in
theorem s_X12_arc_b37 {X : MC} (C : Cx X cX12_arc RX12 wsX12_arc 5 rmX12_arc (some .int)) {rec37 : Int32 × St → Option (Int32 × St)} (v1 : Int32) (v2 : Int32) (v3 : Int32) (v4 : Int32) (hrec37 : ∀ (s : Int32 × St) (r : Int32 × St), rec37 s = some r → G X (QM mkI X r) s.2 37 [(0, .ref (ad X 12)), (1, .int v1), (2, .int v2), (3, .int v3), (4, .int (s.1))] []) (S : St) {r0 : Int32 × St} (h : f_X12_arc_b37 rec37 v1 v2 v3 v4 S = some r0) : G X (QM mkI X r0) S 37 [(0, .ref (ad X 12)), (1, .int v1), (2, .int v2), (3, .int v3), (4, .int v4)] [] := by
  unfold f_X12_arc_b37 at h
  refine g_iload (pc := 37) C dX12_arc_37 4 rfl ?_
  refine g_aload_n (pc := 39) C dX12_arc_39 rfl 0 rfl ?_
  refine g_get (pc := 40) C 12 (w_12 _ _) rfl 13 (Nat.le_of_ble_eq_true rfl) in_X12_X12_arc k108_X12_arc rfl dX12_arc_40 ?_
  refine g_icmp_ge (pc := 43) (tgt := 78) C h dX12_arc_43 (by decide) (fun h => ?_) (fun h => ?_)
  · refine g_aload_n (pc := 78) C dX12_arc_78 rfl 0 rfl ?_
    refine g_get (pc := 79) C 12 (w_12 _ _) rfl 13 (Nat.le_of_ble_eq_true rfl) in_X12_X12_arc k108_X12_arc rfl dX12_arc_79 ?_
    refine g_bipush (pc := 82) (v := 6) C dX12_arc_82 (by decide) ?_
    refine g_icmp_ne (pc := 84) (tgt := 91) C h dX12_arc_84 (by decide) (fun h => ?_) (fun h => ?_)
    · refine g_aload_n (pc := 91) C dX12_arc_91 rfl 0 rfl ?_
      refine g_get (pc := 92) C 12 (w_12 _ _) rfl 14 (Nat.le_of_ble_eq_true rfl) in_X12_X12_arc k42_X12_arc rfl dX12_arc_92 ?_
      refine g_aload_n (pc := 95) C dX12_arc_95 rfl 0 rfl ?_
      refine g_get (pc := 96) C 12 (w_12 _ _) rfl 13 (Nat.le_of_ble_eq_true rfl) in_X12_X12_arc k108_X12_arc rfl dX12_arc_96 ?_
      refine g_iload_n (pc := 99) C dX12_arc_99 rfl 1 rfl ?_
      refine g_iast (pc := 100) C 57 (w_57 _ _) (ws_57 _ _) h dX12_arc_100 (fun S3 h => ?_)
      refine g_aload_n (pc := 101) C dX12_arc_101 rfl 0 rfl ?_
      refine g_get (pc := 102) C 12 (w_12 _ _) rfl 15 (Nat.le_of_ble_eq_true rfl) in_X12_X12_arc k45_X12_arc rfl dX12_arc_102 ?_
      refine g_aload_n (pc := 105) C dX12_arc_105 rfl 0 rfl ?_
      refine g_get (pc := 106) C 12 (w_12 _ _) rfl 13 (Nat.le_of_ble_eq_true rfl) in_X12_X12_arc k108_X12_arc rfl dX12_arc_106 ?_
      refine g_iload_n (pc := 109) C dX12_arc_109 rfl 2 rfl ?_
      refine g_iast (pc := 110) C 58 (w_58 _ _) (ws_58 _ _) h dX12_arc_110 (fun S4 h => ?_)
      refine g_aload_n (pc := 111) C dX12_arc_111 rfl 0 rfl ?_
      refine g_get (pc := 112) C 12 (w_12 _ _) rfl 16 (Nat.le_of_ble_eq_true rfl) in_X12_X12_arc k48_X12_arc rfl dX12_arc_112 ?_
      refine g_aload_n (pc := 115) C dX12_arc_115 rfl 0 rfl ?_
      refine g_get (pc := 116) C 12 (w_12 _ _) rfl 13 (Nat.le_of_ble_eq_true rfl) in_X12_X12_arc k108_X12_arc rfl dX12_arc_116 ?_
      refine g_iload_n (pc := 119) C dX12_arc_119 rfl 3 rfl ?_
      refine g_iast (pc := 120) C 59 (w_59 _ _) (ws_59 _ _) h dX12_arc_120 (fun S5 h => ?_)
      refine g_aload_n (pc := 121) C dX12_arc_121 rfl 0 rfl ?_
      refine g_dup (pc := 122) C dX12_arc_122 rfl ?_
      refine g_get (pc := 123) C 12 (w_12 _ _) rfl 13 (Nat.le_of_ble_eq_true rfl) in_X12_X12_arc k108_X12_arc rfl dX12_arc_123 ?_
      refine g_iconst (pc := 126) (v := 1) C dX12_arc_126 (by decide) ?_
      refine g_iadd (pc := 127) C dX12_arc_127 ?_
      refine g_put (pc := 128) C 12 (w_12 _ _) rfl 13 (Nat.le_of_ble_eq_true rfl) in_X12_X12_arc tyX12_ok nmX12 k108_X12_arc rfl rfl rfl (Nat.le_of_ble_eq_true rfl) (ws_12_13 _ _ _) dX12_arc_128 h (fun S6 h => ?_)
      refine g_aload_n (pc := 131) C dX12_arc_131 rfl 0 rfl ?_
      refine g_get (pc := 132) C 12 (w_12 _ _) rfl 13 (Nat.le_of_ble_eq_true rfl) in_X12_X12_arc k108_X12_arc rfl dX12_arc_132 ?_
      exact g_iret (pc := 135) C h dX12_arc_135
    · refine g_sipush (pc := 87) (v := (-1004)) C dX12_arc_87 (by decide) ?_
      exact g_iret (pc := 90) C h dX12_arc_90
  · refine g_iload_n (pc := 46) C dX12_arc_46 rfl 1 rfl ?_
    refine g_aload_n (pc := 47) C dX12_arc_47 rfl 0 rfl ?_
    refine g_get (pc := 48) C 12 (w_12 _ _) rfl 15 (Nat.le_of_ble_eq_true rfl) in_X12_X12_arc k45_X12_arc rfl dX12_arc_48 ?_
    refine g_iload (pc := 51) C dX12_arc_51 4 rfl ?_
    refine g_iald (pc := 53) C 58 (w_58 _ _) h dX12_arc_53 (fun h => ?_)
    refine g_icmp_ge (pc := 54) (tgt := 72) C h dX12_arc_54 (by decide) (fun h => ?_) (fun h => ?_)
    · refine g_weak (lv1 := [(0, .ref (ad X 12)), (1, .int v1), (2, .int v2), (3, .int v3), (4, .int v4)]) [0, 1, 2, 3, 4] rfl ?_
      exact s_X12_arc_b72 C v1 v2 v3 v4 hrec37  S h
    · refine g_aload_n (pc := 57) C dX12_arc_57 rfl 0 rfl ?_
      refine g_get (pc := 58) C 12 (w_12 _ _) rfl 14 (Nat.le_of_ble_eq_true rfl) in_X12_X12_arc k42_X12_arc rfl dX12_arc_58 ?_
      refine g_iload (pc := 61) C dX12_arc_61 4 rfl ?_
      refine g_iald (pc := 63) C 57 (w_57 _ _) h dX12_arc_63 (fun h => ?_)
      refine g_iload_n (pc := 64) C dX12_arc_64 rfl 2 rfl ?_
      refine g_icmp_ge (pc := 65) (tgt := 72) C h dX12_arc_65 (by decide) (fun h => ?_) (fun h => ?_)
      · refine g_weak (lv1 := [(0, .ref (ad X 12)), (1, .int v1), (2, .int v2), (3, .int v3), (4, .int v4)]) [0, 1, 2, 3, 4] rfl ?_
        exact s_X12_arc_b72 C v1 v2 v3 v4 hrec37  S h
      · refine g_sipush (pc := 68) (v := (-1003)) C dX12_arc_68 (by decide) ?_
        exact g_iret (pc := 71) C h dX12_arc_71
set_option maxRecDepth 100000 in
set_option maxHeartbeats 4000000 in
theorem s_X12_arc_l37 {X : MC} (C : Cx X cX12_arc RX12 wsX12_arc 5 rmX12_arc (some .int)) (v1 : Int32) (v2 : Int32) (v3 : Int32) : ∀ (n : Nat) (s : Int32 × St) (r : Int32 × St), f_X12_arc_l37 v1 v2 v3 n s = some r → G X (QM mkI X r) s.2 37 [(0, .ref (ad X 12)), (1, .int v1), (2, .int v2), (3, .int v3), (4, .int (s.1))] [] :=
  loop_sound (fun rec37 hrec37 s r h => s_X12_arc_b37 C v1 v2 v3 s.1 hrec37 s.2 h)
set_option maxRecDepth 100000 in
set_option maxHeartbeats 4000000 in
theorem s_X12_arc_b0 {X : MC} (C : Cx X cX12_arc RX12 wsX12_arc 5 rmX12_arc (some .int)) (a1 : Int32) (a2 : Int32) (a3 : Int32) (S : St) {r0 : Int32 × St} (h : f_X12_arc_b0 a1 a2 a3 S = some r0) : G X (QM mkI X r0) S 0 [(0, .ref (ad X 12)), (1, .int a1), (2, .int a2), (3, .int a3)] [] := by
  unfold f_X12_arc_b0 at h
  refine g_iload_n (pc := 0) C dX12_arc_0 rfl 1 rfl ?_
  refine g_if_lt (pc := 1) (tgt := 30) C h dX12_arc_1 (by decide) (fun h => ?_) (fun h => ?_)
  · refine g_weak (lv1 := []) [] rfl ?_
    exact s_X12_arc_b30 C   S h
  · refine g_iload_n (pc := 4) C dX12_arc_4 rfl 2 rfl ?_
    refine g_sipush (pc := 5) (v := 20000) C dX12_arc_5 (by decide) ?_
    refine g_icmp_gt (pc := 8) (tgt := 30) C h dX12_arc_8 (by decide) (fun h => ?_) (fun h => ?_)
    · refine g_weak (lv1 := []) [] rfl ?_
      exact s_X12_arc_b30 C   S h
    · refine g_iload_n (pc := 11) C dX12_arc_11 rfl 1 rfl ?_
      refine g_iload_n (pc := 12) C dX12_arc_12 rfl 2 rfl ?_
      refine g_icmp_ge (pc := 13) (tgt := 30) C h dX12_arc_13 (by decide) (fun h => ?_) (fun h => ?_)
      · refine g_weak (lv1 := []) [] rfl ?_
        exact s_X12_arc_b30 C   S h
      · refine g_iload_n (pc := 16) C dX12_arc_16 rfl 3 rfl ?_
        refine g_i2l (pc := 17) C dX12_arc_17 ?_
        refine g_ldc2 (pc := 18) (v := (-400)) C k104_X12_arc dX12_arc_18 ?_
        refine g_ldc2 (pc := 21) (v := 400) C k106_X12_arc dX12_arc_21 ?_
        refine g_callS (pc := 24) C (c_X12_in (Xl X) (Xb X) (Int32.toInt64 a3) (-400) 400 S) gX12_arc_X12_in rfl rfl rfl hd_X12_in ⟨Nat.le_of_ble_eq_true rfl, Nat.le_of_ble_eq_true rfl⟩ rfl rfl (Nat.le_of_ble_eq_true rfl) dX12_arc_24 h (fun r2 S1 h => ?_)
        change G X _ S1 27 [(0, .ref (ad X 12)), (1, .int a1), (2, .int a2), (3, .int a3)] [.int r2]
        refine g_if_ne (pc := 27) (tgt := 34) C h dX12_arc_27 (by decide) (fun h => ?_) (fun h => ?_)
        · refine g_iconst (pc := 34) (v := 0) C dX12_arc_34 (by decide) ?_
          refine g_istore (pc := 35) C [(4, .int 0), (0, .ref (ad X 12)), (1, .int a1), (2, .int a2), (3, .int a3)] dX12_arc_35 (Nat.le_of_ble_eq_true rfl) rfl ?_
          refine g_weak (lv1 := [(0, .ref (ad X 12)), (1, .int a1), (2, .int a2), (3, .int a3), (4, .int 0)]) [1, 2, 3, 4, 0] rfl ?_
          exact s_X12_arc_l37 C a1 a2 a3 _ (0, S1) _ h
        · refine g_weak (lv1 := []) [] rfl ?_
          exact s_X12_arc_b30 C   S1 h
theorem c_X12_arc (l : Launch) (b : Bw) (a1 : Int32) (a2 : Int32) (a3 : Int32) (S : St) : Ct l b yX12_arc wsX12_arc rmX12_arc [.ref (bad b 12), .int a1, .int a2, .int a3] S mkI (f_X12_arc a1 a2 a3 S) := Ct.of (by decide +kernel) rfl (Nat.le_of_ble_eq_true rfl) (fun X C hl hb r h => by
  subst hl; subst hb
  exact s_X12_arc_b0 C a1 a2 a3 S h)
/-! StyleRowsModel.levelBy(IZ)I -/
set_option maxRecDepth 100000 in
set_option maxHeartbeats 4000000 in
theorem s_X12_levelBy_b108 {X : MC} (C : Cx X cX12_levelBy RX12 wsX12_levelBy 6 rmX12_levelBy (some .int)) {rec5 : Int32 × Int32 × St → Option (Int32 × St)} (v1 : Int32) (v2 : Int32) (v4 : Int32) (w0 : Int32) (hrec5 : ∀ (s : Int32 × Int32 × St) (r : Int32 × St), rec5 s = some r → G X (QM mkI X r) s.2.2 5 [(0, .ref (ad X 12)), (1, .int v1), (2, .int v2), (3, .int (s.1)), (4, .int (s.2.1))] []) (S : St) {r0 : Int32 × St} (h : f_X12_levelBy_b108 rec5 v1 v2 v4 w0 S = some r0) : G X (QM mkI X r0) S 108 [(0, .ref (ad X 12)), (1, .int v1), (2, .int v2), (4, .int v4)] [.int w0] := by
  unfold f_X12_levelBy_b108 at h
  refine g_istore_n (pc := 108) C [(3, .int w0), (0, .ref (ad X 12)), (1, .int v1), (2, .int v2), (4, .int v4)] dX12_levelBy_108 rfl (Nat.le_of_ble_eq_true rfl) rfl ?_
  refine g_iinc (pc := 109) (v := v4 + 1) C [(4, .int (v4 + 1)), (3, .int w0), (0, .ref (ad X 12)), (1, .int v1), (2, .int v2)] dX12_levelBy_109 4 rfl rfl (Nat.le_of_ble_eq_true rfl) rfl ?_
  refine g_goto (pc := 112) (tgt := 5) C dX12_levelBy_112 (by decide) ?_
  refine g_weak (lv1 := [(0, .ref (ad X 12)), (1, .int v1), (2, .int v2), (3, .int w0), (4, .int (v4 + 1))]) [2, 3, 4, 1, 0] rfl ?_
  exact hrec5 (w0, v4 + 1, S) _ h
set_option maxRecDepth 100000 in
set_option maxHeartbeats 4000000 in
theorem s_X12_levelBy_b95 {X : MC} (C : Cx X cX12_levelBy RX12 wsX12_levelBy 6 rmX12_levelBy (some .int)) {rec5 : Int32 × Int32 × St → Option (Int32 × St)} (v1 : Int32) (v2 : Int32) (v3 : Int32) (v4 : Int32) (w0 : Int32) (hrec5 : ∀ (s : Int32 × Int32 × St) (r : Int32 × St), rec5 s = some r → G X (QM mkI X r) s.2.2 5 [(0, .ref (ad X 12)), (1, .int v1), (2, .int v2), (3, .int (s.1)), (4, .int (s.2.1))] []) (S : St) {r0 : Int32 × St} (h : f_X12_levelBy_b95 rec5 v1 v2 v3 v4 w0 S = some r0) : G X (QM mkI X r0) S 95 [(0, .ref (ad X 12)), (1, .int v1), (2, .int v2), (3, .int v3), (4, .int v4)] [.int w0] := by
  unfold f_X12_levelBy_b95 at h
  refine g_istore (pc := 95) C [(5, .int w0), (0, .ref (ad X 12)), (1, .int v1), (2, .int v2), (3, .int v3), (4, .int v4)] dX12_levelBy_95 (Nat.le_of_ble_eq_true rfl) rfl ?_
  refine g_iload (pc := 97) C dX12_levelBy_97 0 rfl ?_
  refine g_if_eq (pc := 99) (tgt := 107) C h dX12_levelBy_99 (by decide) (fun h => ?_) (fun h => ?_)
  · refine g_iload_n (pc := 107) C dX12_levelBy_107 rfl 4 rfl ?_
    refine g_weak (lv1 := [(0, .ref (ad X 12)), (1, .int v1), (2, .int v2), (4, .int v4)]) [1, 2, 3, 5] rfl ?_
    exact s_X12_levelBy_b108 C v1 v2 v4 v3 hrec5  S h
  · refine g_iload (pc := 102) C dX12_levelBy_102 5 rfl ?_
    refine g_goto (pc := 104) (tgt := 108) C dX12_levelBy_104 (by decide) ?_
    refine g_weak (lv1 := [(0, .ref (ad X 12)), (1, .int v1), (2, .int v2), (4, .int v4)]) [1, 2, 3, 5] rfl ?_
    exact s_X12_levelBy_b108 C v1 v2 v4 v4 hrec5  S h
set_option maxRecDepth 100000 in
set_option maxHeartbeats 4000000 in
theorem s_X12_levelBy_b94 {X : MC} (C : Cx X cX12_levelBy RX12 wsX12_levelBy 6 rmX12_levelBy (some .int)) {rec5 : Int32 × Int32 × St → Option (Int32 × St)} (v1 : Int32) (v2 : Int32) (v3 : Int32) (v4 : Int32) (hrec5 : ∀ (s : Int32 × Int32 × St) (r : Int32 × St), rec5 s = some r → G X (QM mkI X r) s.2.2 5 [(0, .ref (ad X 12)), (1, .int v1), (2, .int v2), (3, .int (s.1)), (4, .int (s.2.1))] []) (S : St) {r0 : Int32 × St} (h : f_X12_levelBy_b94 rec5 v1 v2 v3 v4 S = some r0) : G X (QM mkI X r0) S 94 [(0, .ref (ad X 12)), (1, .int v1), (2, .int v2), (3, .int v3), (4, .int v4)] [] := by
  unfold f_X12_levelBy_b94 at h
  refine g_iconst (pc := 94) (v := 0) C dX12_levelBy_94 (by decide) ?_
  refine g_weak (lv1 := [(0, .ref (ad X 12)), (1, .int v1), (2, .int v2), (3, .int v3), (4, .int v4)]) [0, 1, 2, 3, 4] rfl ?_
  exact s_X12_levelBy_b95 C v1 v2 v3 v4 0 hrec5  S h
set_option maxRecDepth 100000 in
set_option maxHeartbeats 4000000 in
theorem s_X12_levelBy_b90 {X : MC} (C : Cx X cX12_levelBy RX12 wsX12_levelBy 6 rmX12_levelBy (some .int)) {rec5 : Int32 × Int32 × St → Option (Int32 × St)} (v1 : Int32) (v2 : Int32) (v3 : Int32) (v4 : Int32) (hrec5 : ∀ (s : Int32 × Int32 × St) (r : Int32 × St), rec5 s = some r → G X (QM mkI X r) s.2.2 5 [(0, .ref (ad X 12)), (1, .int v1), (2, .int v2), (3, .int (s.1)), (4, .int (s.2.1))] []) (S : St) {r0 : Int32 × St} (h : f_X12_levelBy_b90 rec5 v1 v2 v3 v4 S = some r0) : G X (QM mkI X r0) S 90 [(0, .ref (ad X 12)), (1, .int v1), (2, .int v2), (3, .int v3), (4, .int v4)] [] := by
  unfold f_X12_levelBy_b90 at h
  refine g_iconst (pc := 90) (v := 1) C dX12_levelBy_90 (by decide) ?_
  refine g_goto (pc := 91) (tgt := 95) C dX12_levelBy_91 (by decide) ?_
  refine g_weak (lv1 := [(0, .ref (ad X 12)), (1, .int v1), (2, .int v2), (3, .int v3), (4, .int v4)]) [0, 1, 2, 3, 4] rfl ?_
  exact s_X12_levelBy_b95 C v1 v2 v3 v4 1 hrec5  S h
set_option maxRecDepth 100000 in
set_option maxHeartbeats 4000000 in
theorem s_X12_levelBy_b54 {X : MC} (C : Cx X cX12_levelBy RX12 wsX12_levelBy 6 rmX12_levelBy (some .int)) {rec5 : Int32 × Int32 × St → Option (Int32 × St)} (v1 : Int32) (v2 : Int32) (v3 : Int32) (v4 : Int32) (hrec5 : ∀ (s : Int32 × Int32 × St) (r : Int32 × St), rec5 s = some r → G X (QM mkI X r) s.2.2 5 [(0, .ref (ad X 12)), (1, .int v1), (2, .int v2), (3, .int (s.1)), (4, .int (s.2.1))] []) (S : St) {r0 : Int32 × St} (h : f_X12_levelBy_b54 rec5 v1 v2 v3 v4 S = some r0) : G X (QM mkI X r0) S 54 [(0, .ref (ad X 12)), (1, .int v1), (2, .int v2), (3, .int v3), (4, .int v4)] [] := by
  unfold f_X12_levelBy_b54 at h
  refine g_iconst (pc := 54) (v := 0) C dX12_levelBy_54 (by decide) ?_
  refine g_goto (pc := 55) (tgt := 95) C dX12_levelBy_55 (by decide) ?_
  refine g_weak (lv1 := [(0, .ref (ad X 12)), (1, .int v1), (2, .int v2), (3, .int v3), (4, .int v4)]) [0, 1, 2, 3, 4] rfl ?_
  exact s_X12_levelBy_b95 C v1 v2 v3 v4 0 hrec5  S h
set_option maxRecDepth 100000 in
set_option maxHeartbeats 4000000 in
theorem s_X12_levelBy_b50 {X : MC} (C : Cx X cX12_levelBy RX12 wsX12_levelBy 6 rmX12_levelBy (some .int)) {rec5 : Int32 × Int32 × St → Option (Int32 × St)} (v1 : Int32) (v2 : Int32) (v3 : Int32) (v4 : Int32) (hrec5 : ∀ (s : Int32 × Int32 × St) (r : Int32 × St), rec5 s = some r → G X (QM mkI X r) s.2.2 5 [(0, .ref (ad X 12)), (1, .int v1), (2, .int v2), (3, .int (s.1)), (4, .int (s.2.1))] []) (S : St) {r0 : Int32 × St} (h : f_X12_levelBy_b50 rec5 v1 v2 v3 v4 S = some r0) : G X (QM mkI X r0) S 50 [(0, .ref (ad X 12)), (1, .int v1), (2, .int v2), (3, .int v3), (4, .int v4)] [] := by
  unfold f_X12_levelBy_b50 at h
  refine g_iconst (pc := 50) (v := 1) C dX12_levelBy_50 (by decide) ?_
  refine g_goto (pc := 51) (tgt := 95) C dX12_levelBy_51 (by decide) ?_
  refine g_weak (lv1 := [(0, .ref (ad X 12)), (1, .int v1), (2, .int v2), (3, .int v3), (4, .int v4)]) [0, 1, 2, 3, 4] rfl ?_
  exact s_X12_levelBy_b95 C v1 v2 v3 v4 1 hrec5  S h
set_option maxRecDepth 100000 in
set_option maxHeartbeats 4000000 in
theorem s_X12_levelBy_b5 {X : MC} (C : Cx X cX12_levelBy RX12 wsX12_levelBy 6 rmX12_levelBy (some .int)) {rec5 : Int32 × Int32 × St → Option (Int32 × St)} (v1 : Int32) (v2 : Int32) (v3 : Int32) (v4 : Int32) (hrec5 : ∀ (s : Int32 × Int32 × St) (r : Int32 × St), rec5 s = some r → G X (QM mkI X r) s.2.2 5 [(0, .ref (ad X 12)), (1, .int v1), (2, .int v2), (3, .int (s.1)), (4, .int (s.2.1))] []) (S : St) {r0 : Int32 × St} (h : f_X12_levelBy_b5 rec5 v1 v2 v3 v4 S = some r0) : G X (QM mkI X r0) S 5 [(0, .ref (ad X 12)), (1, .int v1), (2, .int v2), (3, .int v3), (4, .int v4)] [] := by
  unfold f_X12_levelBy_b5 at h
  refine g_iload (pc := 5) C dX12_levelBy_5 4 rfl ?_
  refine g_aload_n (pc := 7) C dX12_levelBy_7 rfl 0 rfl ?_
  refine g_get (pc := 8) C 12 (w_12 _ _) rfl 7 (Nat.le_of_ble_eq_true rfl) in_X12_X12_levelBy k101_X12_levelBy rfl dX12_levelBy_8 ?_
  refine g_icmp_ge (pc := 11) (tgt := 115) C h dX12_levelBy_11 (by decide) (fun h => ?_) (fun h => ?_)
  · refine g_iload_n (pc := 115) C dX12_levelBy_115 rfl 3 rfl ?_
    exact g_iret (pc := 116) C h dX12_levelBy_116
  · refine g_iload_n (pc := 14) C dX12_levelBy_14 rfl 2 rfl ?_
    refine g_if_eq (pc := 15) (tgt := 58) C h dX12_levelBy_15 (by decide) (fun h => ?_) (fun h => ?_)
    · refine g_aload_n (pc := 58) C dX12_levelBy_58 rfl 0 rfl ?_
      refine g_get (pc := 59) C 12 (w_12 _ _) rfl 8 (Nat.le_of_ble_eq_true rfl) in_X12_X12_levelBy k25_X12_levelBy rfl dX12_levelBy_59 ?_
      refine g_iload (pc := 62) C dX12_levelBy_62 4 rfl ?_
      refine g_iald (pc := 64) C 54 (w_54 _ _) h dX12_levelBy_64 (fun h => ?_)
      refine g_iload_n (pc := 65) C dX12_levelBy_65 rfl 1 rfl ?_
      refine g_icmp_gt (pc := 66) (tgt := 94) C h dX12_levelBy_66 (by decide) (fun h => ?_) (fun h => ?_)
      · refine g_weak (lv1 := [(0, .ref (ad X 12)), (1, .int v1), (2, .int v2), (3, .int v3), (4, .int v4)]) [0, 1, 2, 3, 4] rfl ?_
        exact s_X12_levelBy_b94 C v1 v2 v3 v4 hrec5  S h
      · refine g_iload_n (pc := 69) C dX12_levelBy_69 rfl 3 rfl ?_
        refine g_iconst (pc := 70) (v := (-1)) C dX12_levelBy_70 (by decide) ?_
        refine g_icmp_eq (pc := 71) (tgt := 90) C h dX12_levelBy_71 (by decide) (fun h => ?_) (fun h => ?_)
        · refine g_weak (lv1 := [(0, .ref (ad X 12)), (1, .int v1), (2, .int v2), (3, .int v3), (4, .int v4)]) [0, 1, 2, 3, 4] rfl ?_
          exact s_X12_levelBy_b90 C v1 v2 v3 v4 hrec5  S h
        · refine g_aload_n (pc := 74) C dX12_levelBy_74 rfl 0 rfl ?_
          refine g_get (pc := 75) C 12 (w_12 _ _) rfl 8 (Nat.le_of_ble_eq_true rfl) in_X12_X12_levelBy k25_X12_levelBy rfl dX12_levelBy_75 ?_
          refine g_iload (pc := 78) C dX12_levelBy_78 4 rfl ?_
          refine g_iald (pc := 80) C 54 (w_54 _ _) h dX12_levelBy_80 (fun h => ?_)
          refine g_aload_n (pc := 81) C dX12_levelBy_81 rfl 0 rfl ?_
          refine g_get (pc := 82) C 12 (w_12 _ _) rfl 8 (Nat.le_of_ble_eq_true rfl) in_X12_X12_levelBy k25_X12_levelBy rfl dX12_levelBy_82 ?_
          refine g_iload_n (pc := 85) C dX12_levelBy_85 rfl 3 rfl ?_
          refine g_iald (pc := 86) C 54 (w_54 _ _) h dX12_levelBy_86 (fun h => ?_)
          refine g_icmp_le (pc := 87) (tgt := 94) C h dX12_levelBy_87 (by decide) (fun h => ?_) (fun h => ?_)
          · refine g_weak (lv1 := [(0, .ref (ad X 12)), (1, .int v1), (2, .int v2), (3, .int v3), (4, .int v4)]) [0, 1, 2, 3, 4] rfl ?_
            exact s_X12_levelBy_b94 C v1 v2 v3 v4 hrec5  S h
          · refine g_weak (lv1 := [(0, .ref (ad X 12)), (1, .int v1), (2, .int v2), (3, .int v3), (4, .int v4)]) [0, 1, 2, 3, 4] rfl ?_
            exact s_X12_levelBy_b90 C v1 v2 v3 v4 hrec5  S h
    · refine g_aload_n (pc := 18) C dX12_levelBy_18 rfl 0 rfl ?_
      refine g_get (pc := 19) C 12 (w_12 _ _) rfl 8 (Nat.le_of_ble_eq_true rfl) in_X12_X12_levelBy k25_X12_levelBy rfl dX12_levelBy_19 ?_
      refine g_iload (pc := 22) C dX12_levelBy_22 4 rfl ?_
      refine g_iald (pc := 24) C 54 (w_54 _ _) h dX12_levelBy_24 (fun h => ?_)
      refine g_iload_n (pc := 25) C dX12_levelBy_25 rfl 1 rfl ?_
      refine g_icmp_le (pc := 26) (tgt := 54) C h dX12_levelBy_26 (by decide) (fun h => ?_) (fun h => ?_)
      · refine g_weak (lv1 := [(0, .ref (ad X 12)), (1, .int v1), (2, .int v2), (3, .int v3), (4, .int v4)]) [0, 1, 2, 3, 4] rfl ?_
        exact s_X12_levelBy_b54 C v1 v2 v3 v4 hrec5  S h
      · refine g_iload_n (pc := 29) C dX12_levelBy_29 rfl 3 rfl ?_
        refine g_iconst (pc := 30) (v := (-1)) C dX12_levelBy_30 (by decide) ?_
        refine g_icmp_eq (pc := 31) (tgt := 50) C h dX12_levelBy_31 (by decide) (fun h => ?_) (fun h => ?_)
        · refine g_weak (lv1 := [(0, .ref (ad X 12)), (1, .int v1), (2, .int v2), (3, .int v3), (4, .int v4)]) [0, 1, 2, 3, 4] rfl ?_
          exact s_X12_levelBy_b50 C v1 v2 v3 v4 hrec5  S h
        · refine g_aload_n (pc := 34) C dX12_levelBy_34 rfl 0 rfl ?_
          refine g_get (pc := 35) C 12 (w_12 _ _) rfl 8 (Nat.le_of_ble_eq_true rfl) in_X12_X12_levelBy k25_X12_levelBy rfl dX12_levelBy_35 ?_
          refine g_iload (pc := 38) C dX12_levelBy_38 4 rfl ?_
          refine g_iald (pc := 40) C 54 (w_54 _ _) h dX12_levelBy_40 (fun h => ?_)
          refine g_aload_n (pc := 41) C dX12_levelBy_41 rfl 0 rfl ?_
          refine g_get (pc := 42) C 12 (w_12 _ _) rfl 8 (Nat.le_of_ble_eq_true rfl) in_X12_X12_levelBy k25_X12_levelBy rfl dX12_levelBy_42 ?_
          refine g_iload_n (pc := 45) C dX12_levelBy_45 rfl 3 rfl ?_
          refine g_iald (pc := 46) C 54 (w_54 _ _) h dX12_levelBy_46 (fun h => ?_)
          refine g_icmp_ge (pc := 47) (tgt := 54) C h dX12_levelBy_47 (by decide) (fun h => ?_) (fun h => ?_)
          · refine g_weak (lv1 := [(0, .ref (ad X 12)), (1, .int v1), (2, .int v2), (3, .int v3), (4, .int v4)]) [0, 1, 2, 3, 4] rfl ?_
            exact s_X12_levelBy_b54 C v1 v2 v3 v4 hrec5  S h
          · refine g_weak (lv1 := [(0, .ref (ad X 12)), (1, .int v1), (2, .int v2), (3, .int v3), (4, .int v4)]) [0, 1, 2, 3, 4] rfl ?_
            exact s_X12_levelBy_b50 C v1 v2 v3 v4 hrec5  S h
set_option maxRecDepth 100000 in
set_option maxHeartbeats 4000000 in
theorem s_X12_levelBy_l5 {X : MC} (C : Cx X cX12_levelBy RX12 wsX12_levelBy 6 rmX12_levelBy (some .int)) (v1 : Int32) (v2 : Int32) : ∀ (n : Nat) (s : Int32 × Int32 × St) (r : Int32 × St), f_X12_levelBy_l5 v1 v2 n s = some r → G X (QM mkI X r) s.2.2 5 [(0, .ref (ad X 12)), (1, .int v1), (2, .int v2), (3, .int (s.1)), (4, .int (s.2.1))] [] :=
  loop_sound (fun rec5 hrec5 s r h => s_X12_levelBy_b5 C v1 v2 s.1 s.2.1 hrec5 s.2.2 h)
set_option maxRecDepth 100000 in
set_option maxHeartbeats 4000000 in
theorem s_X12_levelBy_b0 {X : MC} (C : Cx X cX12_levelBy RX12 wsX12_levelBy 6 rmX12_levelBy (some .int)) (a1 : Int32) (a2 : Int32) (S : St) {r0 : Int32 × St} (h : f_X12_levelBy_b0 a1 a2 S = some r0) : G X (QM mkI X r0) S 0 [(0, .ref (ad X 12)), (1, .int a1), (2, .int a2)] [] := by
  unfold f_X12_levelBy_b0 at h
  refine g_iconst (pc := 0) (v := (-1)) C dX12_levelBy_0 (by decide) ?_
  refine g_istore_n (pc := 1) C [(3, .int (-1)), (0, .ref (ad X 12)), (1, .int a1), (2, .int a2)] dX12_levelBy_1 rfl (Nat.le_of_ble_eq_true rfl) rfl ?_
  refine g_iconst (pc := 2) (v := 0) C dX12_levelBy_2 (by decide) ?_
  refine g_istore (pc := 3) C [(4, .int 0), (3, .int (-1)), (0, .ref (ad X 12)), (1, .int a1), (2, .int a2)] dX12_levelBy_3 (Nat.le_of_ble_eq_true rfl) rfl ?_
  refine g_weak (lv1 := [(0, .ref (ad X 12)), (1, .int a1), (2, .int a2), (3, .int (-1)), (4, .int 0)]) [2, 3, 4, 1, 0] rfl ?_
  exact s_X12_levelBy_l5 C a1 a2 _ ((-1), 0, S) _ h
theorem c_X12_levelBy (l : Launch) (b : Bw) (a1 : Int32) (a2 : Int32) (S : St) : Ct l b yX12_levelBy wsX12_levelBy rmX12_levelBy [.ref (bad b 12), .int a1, .int a2] S mkI (f_X12_levelBy a1 a2 S) := Ct.of (by decide +kernel) rfl (Nat.le_of_ble_eq_true rfl) (fun X C hl hb r h => by
  subst hl; subst hb
  exact s_X12_levelBy_b0 C a1 a2 S h)
/-! StyleRowsModel.floor(JJ)J -/
set_option maxRecDepth 100000 in
set_option maxHeartbeats 4000000 in
theorem s_X12_floor_b47 {X : MC} (C : Cx X cX12_floor RX12 wsX12_floor 6 rmX12_floor (some .long)) (w0 : Int64) (S : St) {r0 : Int64 × St} (h : f_X12_floor_b47 w0 S = some r0) : G X (QM mkL X r0) S 47 [] [.long w0] := by
  unfold f_X12_floor_b47 at h
  exact g_lret (pc := 47) C h dX12_floor_47
set_option maxRecDepth 100000 in
set_option maxHeartbeats 4000000 in
theorem s_X12_floor_b45 {X : MC} (C : Cx X cX12_floor RX12 wsX12_floor 6 rmX12_floor (some .long)) (v4 : Int64) (S : St) {r0 : Int64 × St} (h : f_X12_floor_b45 v4 S = some r0) : G X (QM mkL X r0) S 45 [(4, .long v4)] [] := by
  unfold f_X12_floor_b45 at h
  refine g_lload (pc := 45) C dX12_floor_45 0 rfl ?_
  refine g_weak (lv1 := []) [] rfl ?_
  exact s_X12_floor_b47 C v4  S h
set_option maxRecDepth 100000 in
set_option maxHeartbeats 4000000 in
theorem s_X12_floor_b35 {X : MC} (C : Cx X cX12_floor RX12 wsX12_floor 6 rmX12_floor (some .long)) (v4 : Int64) (w0 : Int32) (w1 : Int32) (S : St) {r0 : Int64 × St} (h : f_X12_floor_b35 v4 w0 w1 S = some r0) : G X (QM mkL X r0) S 35 [(4, .long v4)] [.int w1, .int w0] := by
  unfold f_X12_floor_b35 at h
  refine g_icmp_eq (pc := 35) (tgt := 45) C h dX12_floor_35 (by decide) (fun h => ?_) (fun h => ?_)
  · refine g_weak (lv1 := [(4, .long v4)]) [0] rfl ?_
    exact s_X12_floor_b45 C v4  S h
  · refine g_lload (pc := 38) C dX12_floor_38 0 rfl ?_
    refine g_lconst (pc := 40) (v := 1) C dX12_floor_40 (by decide) ?_
    refine g_lsub (pc := 41) C dX12_floor_41 ?_
    refine g_goto (pc := 42) (tgt := 47) C dX12_floor_42 (by decide) ?_
    refine g_weak (lv1 := []) [] rfl ?_
    exact s_X12_floor_b47 C (v4 - 1)  S h
set_option maxRecDepth 100000 in
set_option maxHeartbeats 4000000 in
theorem s_X12_floor_b24 {X : MC} (C : Cx X cX12_floor RX12 wsX12_floor 6 rmX12_floor (some .long)) (v2 : Int64) (v4 : Int64) (w0 : Int32) (S : St) {r0 : Int64 × St} (h : f_X12_floor_b24 v2 v4 w0 S = some r0) : G X (QM mkL X r0) S 24 [(2, .long v2), (4, .long v4)] [.int w0] := by
  unfold f_X12_floor_b24 at h
  refine g_lload_n (pc := 24) C dX12_floor_24 rfl 0 rfl ?_
  refine g_lconst (pc := 25) (v := 0) C dX12_floor_25 (by decide) ?_
  refine g_lcmp (pc := 26) C dX12_floor_26 ?_
  refine g_if_ge (pc := 27) (tgt := 34) C h dX12_floor_27 (by decide) (fun h => ?_) (fun h => ?_)
  · refine g_iconst (pc := 34) (v := 0) C dX12_floor_34 (by decide) ?_
    refine g_weak (lv1 := [(4, .long v4)]) [1] rfl ?_
    exact s_X12_floor_b35 C v4 w0 0  S h
  · refine g_iconst (pc := 30) (v := 1) C dX12_floor_30 (by decide) ?_
    refine g_goto (pc := 31) (tgt := 35) C dX12_floor_31 (by decide) ?_
    refine g_weak (lv1 := [(4, .long v4)]) [1] rfl ?_
    exact s_X12_floor_b35 C v4 w0 1  S h
set_option maxRecDepth 100000 in
set_option maxHeartbeats 4000000 in
theorem s_X12_floor_b0 {X : MC} (C : Cx X cX12_floor RX12 wsX12_floor 6 rmX12_floor (some .long)) (a1 : Int64) (a2 : Int64) (S : St) {r0 : Int64 × St} (h : f_X12_floor_b0 a1 a2 S = some r0) : G X (QM mkL X r0) S 0 [(0, .long a1), (2, .long a2)] [] := by
  unfold f_X12_floor_b0 at h
  refine g_lload_n (pc := 0) C dX12_floor_0 rfl 0 rfl ?_
  refine g_lload_n (pc := 1) C dX12_floor_1 rfl 1 rfl ?_
  refine g_ldiv (pc := 2) C h dX12_floor_2 (fun h => ?_)
  refine g_letl h (fun y1 h => ?_)
  refine g_lstore (pc := 3) C [(4, .long y1), (0, .long a1), (2, .long a2)] dX12_floor_3 (Nat.le_of_ble_eq_true rfl) rfl ?_
  refine g_lload_n (pc := 5) C dX12_floor_5 rfl 1 rfl ?_
  refine g_lload_n (pc := 6) C dX12_floor_6 rfl 2 rfl ?_
  refine g_lrem (pc := 7) C h dX12_floor_7 (fun h => ?_)
  refine g_lconst (pc := 8) (v := 0) C dX12_floor_8 (by decide) ?_
  refine g_lcmp (pc := 9) C dX12_floor_9 ?_
  refine g_if_eq (pc := 10) (tgt := 45) C h dX12_floor_10 (by decide) (fun h => ?_) (fun h => ?_)
  · refine g_weak (lv1 := [(4, .long y1)]) [0] rfl ?_
    exact s_X12_floor_b45 C y1  S h
  · refine g_lload_n (pc := 13) C dX12_floor_13 rfl 1 rfl ?_
    refine g_lconst (pc := 14) (v := 0) C dX12_floor_14 (by decide) ?_
    refine g_lcmp (pc := 15) C dX12_floor_15 ?_
    refine g_if_ge (pc := 16) (tgt := 23) C h dX12_floor_16 (by decide) (fun h => ?_) (fun h => ?_)
    · refine g_iconst (pc := 23) (v := 0) C dX12_floor_23 (by decide) ?_
      refine g_weak (lv1 := [(2, .long a2), (4, .long y1)]) [2, 0] rfl ?_
      exact s_X12_floor_b24 C a2 y1 0  S h
    · refine g_iconst (pc := 19) (v := 1) C dX12_floor_19 (by decide) ?_
      refine g_goto (pc := 20) (tgt := 24) C dX12_floor_20 (by decide) ?_
      refine g_weak (lv1 := [(2, .long a2), (4, .long y1)]) [2, 0] rfl ?_
      exact s_X12_floor_b24 C a2 y1 1  S h
theorem c_X12_floor (l : Launch) (b : Bw) (a1 : Int64) (a2 : Int64) (S : St) : Ct l b yX12_floor wsX12_floor rmX12_floor [.long a1, .long a2] S mkL (f_X12_floor a1 a2 S) := Ct.of (by decide +kernel) rfl (Nat.le_of_ble_eq_true rfl) (fun X C hl hb r h => by
  subst hl; subst hb
  exact s_X12_floor_b0 C a1 a2 S h)
/-! StyleRowsModel.highAt(I)I -/
set_option maxRecDepth 100000 in
set_option maxHeartbeats 4000000 in
theorem s_X12_highAt_b36 {X : MC} (C : Cx X cX12_highAt RX12 wsX12_highAt 4 rmX12_highAt (some .int)) (v2 : Int32) (S : St) {r0 : Int32 × St} (h : f_X12_highAt_b36 v2 S = some r0) : G X (QM mkI X r0) S 36 [(0, .ref (ad X 12)), (2, .int v2)] [] := by
  unfold f_X12_highAt_b36 at h
  refine g_aload_n (pc := 36) C dX12_highAt_36 rfl 0 rfl ?_
  refine g_get (pc := 37) C 12 (w_12 _ _) rfl 9 (Nat.le_of_ble_eq_true rfl) in_X12_X12_highAt k28_X12_highAt rfl dX12_highAt_37 ?_
  refine g_iload_n (pc := 40) C dX12_highAt_40 rfl 1 rfl ?_
  refine g_iald (pc := 41) C 55 (w_55 _ _) h dX12_highAt_41 (fun h => ?_)
  exact g_iret (pc := 42) C h dX12_highAt_42
set_option maxRecDepth 100000 in
set_option maxHeartbeats 4000000 in
theorem s_X12_highAt_b0 {X : MC} (C : Cx X cX12_highAt RX12 wsX12_highAt 4 rmX12_highAt (some .int)) (a1 : Int32) (S : St) {r0 : Int32 × St} (h : f_X12_highAt_b0 a1 S = some r0) : G X (QM mkI X r0) S 0 [(0, .ref (ad X 12)), (1, .int a1)] [] := by
  unfold f_X12_highAt_b0 at h
  refine g_aload_n (pc := 0) C dX12_highAt_0 rfl 0 rfl ?_
  refine g_iload_n (pc := 1) C dX12_highAt_1 rfl 1 rfl ?_
  refine g_iconst (pc := 2) (v := 0) C dX12_highAt_2 (by decide) ?_
  refine g_callV (pc := 3) C 12 (c_X12_levelBy (Xl X) (Xb X) a1 0 S) gX12_highAt_X12_levelBy rfl rfl rfl hd_X12_levelBy ⟨Nat.le_of_ble_eq_true rfl, Nat.le_of_ble_eq_true rfl⟩ (w_12 _ _) rfl rfl rfl (Nat.le_of_ble_eq_true rfl) dX12_highAt_3 h (fun r2 S1 h => ?_)
  change G X _ S1 6 [(0, .ref (ad X 12)), (1, .int a1)] [.int r2]
  refine g_istore_n (pc := 6) C [(2, .int r2), (0, .ref (ad X 12)), (1, .int a1)] dX12_highAt_6 rfl (Nat.le_of_ble_eq_true rfl) rfl ?_
  refine g_aload_n (pc := 7) C dX12_highAt_7 rfl 1 rfl ?_
  refine g_iload_n (pc := 8) C dX12_highAt_8 rfl 2 rfl ?_
  refine g_iconst (pc := 9) (v := 1) C dX12_highAt_9 (by decide) ?_
  refine g_callV (pc := 10) C 12 (c_X12_levelBy (Xl X) (Xb X) a1 1 S1) gX12_highAt_X12_levelBy rfl rfl rfl hd_X12_levelBy ⟨Nat.le_of_ble_eq_true rfl, Nat.le_of_ble_eq_true rfl⟩ (w_12 _ _) rfl rfl rfl (Nat.le_of_ble_eq_true rfl) dX12_highAt_10 h (fun r4 S3 h => ?_)
  change G X _ S3 13 [(2, .int r2), (0, .ref (ad X 12)), (1, .int a1)] [.int r4]
  refine g_istore_n (pc := 13) C [(3, .int r4), (2, .int r2), (0, .ref (ad X 12)), (1, .int a1)] dX12_highAt_13 rfl (Nat.le_of_ble_eq_true rfl) rfl ?_
  refine g_iload_n (pc := 14) C dX12_highAt_14 rfl 1 rfl ?_
  refine g_iconst (pc := 15) (v := (-1)) C dX12_highAt_15 (by decide) ?_
  refine g_icmp_ne (pc := 16) (tgt := 22) C h dX12_highAt_16 (by decide) (fun h => ?_) (fun h => ?_)
  · refine g_iload_n (pc := 22) C dX12_highAt_22 rfl 0 rfl ?_
    refine g_iconst (pc := 23) (v := (-1)) C dX12_highAt_23 (by decide) ?_
    refine g_icmp_eq (pc := 24) (tgt := 36) C h dX12_highAt_24 (by decide) (fun h => ?_) (fun h => ?_)
    · refine g_weak (lv1 := [(0, .ref (ad X 12)), (2, .int r2)]) [2, 1] rfl ?_
      exact s_X12_highAt_b36 C r2  S3 h
    · refine g_aload_n (pc := 27) C dX12_highAt_27 rfl 2 rfl ?_
      refine g_get (pc := 28) C 12 (w_12 _ _) rfl 10 (Nat.le_of_ble_eq_true rfl) in_X12_X12_highAt k31_X12_highAt rfl dX12_highAt_28 ?_
      refine g_iload_n (pc := 31) C dX12_highAt_31 rfl 0 rfl ?_
      refine g_zald (pc := 32) C 56 (w_56 _ _) h dX12_highAt_32 (fun h => ?_)
      refine g_if_ne (pc := 33) (tgt := 43) C h dX12_highAt_33 (by decide) (fun h => ?_) (fun h => ?_)
      · refine g_aload_n (pc := 43) C dX12_highAt_43 rfl 2 rfl ?_
        refine g_get (pc := 44) C 12 (w_12 _ _) rfl 9 (Nat.le_of_ble_eq_true rfl) in_X12_X12_highAt k28_X12_highAt rfl dX12_highAt_44 ?_
        refine g_iload_n (pc := 47) C dX12_highAt_47 rfl 1 rfl ?_
        refine g_iald (pc := 48) C 55 (w_55 _ _) h dX12_highAt_48 (fun h => ?_)
        refine g_aload_n (pc := 49) C dX12_highAt_49 rfl 2 rfl ?_
        refine g_get (pc := 50) C 12 (w_12 _ _) rfl 9 (Nat.le_of_ble_eq_true rfl) in_X12_X12_highAt k28_X12_highAt rfl dX12_highAt_50 ?_
        refine g_iload_n (pc := 53) C dX12_highAt_53 rfl 0 rfl ?_
        refine g_iald (pc := 54) C 55 (w_55 _ _) h dX12_highAt_54 (fun h => ?_)
        refine g_aload_n (pc := 55) C dX12_highAt_55 rfl 2 rfl ?_
        refine g_get (pc := 56) C 12 (w_12 _ _) rfl 9 (Nat.le_of_ble_eq_true rfl) in_X12_X12_highAt k28_X12_highAt rfl dX12_highAt_56 ?_
        refine g_iload_n (pc := 59) C dX12_highAt_59 rfl 1 rfl ?_
        refine g_iald (pc := 60) C 55 (w_55 _ _) h dX12_highAt_60 (fun h => ?_)
        refine g_isub (pc := 61) C dX12_highAt_61 ?_
        refine g_i2l (pc := 62) C dX12_highAt_62 ?_
        refine g_iload_n (pc := 63) C dX12_highAt_63 rfl 3 rfl ?_
        refine g_aload_n (pc := 64) C dX12_highAt_64 rfl 2 rfl ?_
        refine g_get (pc := 65) C 12 (w_12 _ _) rfl 8 (Nat.le_of_ble_eq_true rfl) in_X12_X12_highAt k25_X12_highAt rfl dX12_highAt_65 ?_
        refine g_iload_n (pc := 68) C dX12_highAt_68 rfl 1 rfl ?_
        refine g_iald (pc := 69) C 54 (w_54 _ _) h dX12_highAt_69 (fun h => ?_)
        refine g_isub (pc := 70) C dX12_highAt_70 ?_
        refine g_i2l (pc := 71) C dX12_highAt_71 ?_
        refine g_lmul (pc := 72) C dX12_highAt_72 ?_
        refine g_aload_n (pc := 73) C dX12_highAt_73 rfl 2 rfl ?_
        refine g_get (pc := 74) C 12 (w_12 _ _) rfl 8 (Nat.le_of_ble_eq_true rfl) in_X12_X12_highAt k25_X12_highAt rfl dX12_highAt_74 ?_
        refine g_iload_n (pc := 77) C dX12_highAt_77 rfl 0 rfl ?_
        refine g_iald (pc := 78) C 54 (w_54 _ _) h dX12_highAt_78 (fun h => ?_)
        refine g_aload_n (pc := 79) C dX12_highAt_79 rfl 2 rfl ?_
        refine g_get (pc := 80) C 12 (w_12 _ _) rfl 8 (Nat.le_of_ble_eq_true rfl) in_X12_X12_highAt k25_X12_highAt rfl dX12_highAt_80 ?_
        refine g_iload_n (pc := 83) C dX12_highAt_83 rfl 1 rfl ?_
        refine g_iald (pc := 84) C 54 (w_54 _ _) h dX12_highAt_84 (fun h => ?_)
        refine g_isub (pc := 85) C dX12_highAt_85 ?_
        refine g_i2l (pc := 86) C dX12_highAt_86 ?_
        refine g_callS (pc := 87) C (c_X12_floor (Xl X) (Xb X) ((Int32.toInt64 ((rd S3 55 r4) - (rd S3 55 r2))) * (Int32.toInt64 (a1 - (rd S3 54 r2)))) (Int32.toInt64 ((rd S3 54 r4) - (rd S3 54 r2))) S3) gX12_highAt_X12_floor rfl rfl rfl hd_X12_floor ⟨Nat.le_of_ble_eq_true rfl, Nat.le_of_ble_eq_true rfl⟩ rfl rfl (Nat.le_of_ble_eq_true rfl) dX12_highAt_87 h (fun r6 S5 h => ?_)
        change G X _ S5 90 [(3, .int r4), (2, .int r2), (0, .ref (ad X 12)), (1, .int a1)] [.long r6, .int (rd S3 55 r2)]
        refine g_l2i (pc := 90) C dX12_highAt_90 ?_
        refine g_iadd (pc := 91) C dX12_highAt_91 ?_
        exact g_iret (pc := 92) C h dX12_highAt_92
      · refine g_weak (lv1 := [(0, .ref (ad X 12)), (2, .int r2)]) [2, 1] rfl ?_
        exact s_X12_highAt_b36 C r2  S3 h
  · refine g_bipush (pc := 19) (v := 64) C dX12_highAt_19 (by decide) ?_
    exact g_iret (pc := 21) C h dX12_highAt_21
theorem c_X12_highAt (l : Launch) (b : Bw) (a1 : Int32) (S : St) : Ct l b yX12_highAt wsX12_highAt rmX12_highAt [.ref (bad b 12), .int a1] S mkI (f_X12_highAt a1 S) := Ct.of (by decide +kernel) rfl (Nat.le_of_ble_eq_true rfl) (fun X C hl hb r h => by
  subst hl; subst hb
  exact s_X12_highAt_b0 C a1 S h)
/-! StyleRowsModel.levelAt(I)I -/
set_option maxRecDepth 100000 in
set_option maxHeartbeats 4000000 in
theorem s_X12_levelAt_b23 {X : MC} (C : Cx X cX12_levelAt RX12 wsX12_levelAt 2 rmX12_levelAt (some .int)) (w0 : Int32) (S : St) {r0 : Int32 × St} (h : f_X12_levelAt_b23 w0 S = some r0) : G X (QM mkI X r0) S 23 [] [.int w0] := by
  unfold f_X12_levelAt_b23 at h
  exact g_iret (pc := 23) C h dX12_levelAt_23
set_option maxRecDepth 100000 in
set_option maxHeartbeats 4000000 in
theorem s_X12_levelAt_b0 {X : MC} (C : Cx X cX12_levelAt RX12 wsX12_levelAt 2 rmX12_levelAt (some .int)) (a1 : Int32) (S : St) {r0 : Int32 × St} (h : f_X12_levelAt_b0 a1 S = some r0) : G X (QM mkI X r0) S 0 [(0, .ref (ad X 12)), (1, .int a1)] [] := by
  unfold f_X12_levelAt_b0 at h
  refine g_iload_n (pc := 0) C dX12_levelAt_0 rfl 1 rfl ?_
  refine g_i2l (pc := 1) C dX12_levelAt_1 ?_
  refine g_lconst (pc := 2) (v := 0) C dX12_levelAt_2 (by decide) ?_
  refine g_ldc2 (pc := 3) (v := 20000) C k99_X12_levelAt dX12_levelAt_3 ?_
  refine g_callS (pc := 6) C (c_X12_in (Xl X) (Xb X) (Int32.toInt64 a1) 0 20000 S) gX12_levelAt_X12_in rfl rfl rfl hd_X12_in ⟨Nat.le_of_ble_eq_true rfl, Nat.le_of_ble_eq_true rfl⟩ rfl rfl (Nat.le_of_ble_eq_true rfl) dX12_levelAt_6 h (fun r2 S1 h => ?_)
  change G X _ S1 9 [(0, .ref (ad X 12)), (1, .int a1)] [.int r2]
  refine g_if_eq (pc := 9) (tgt := 20) C h dX12_levelAt_9 (by decide) (fun h => ?_) (fun h => ?_)
  · refine g_sipush (pc := 20) (v := (-1002)) C dX12_levelAt_20 (by decide) ?_
    refine g_weak (lv1 := []) [] rfl ?_
    exact s_X12_levelAt_b23 C (-1002)  S1 h
  · refine g_aload_n (pc := 12) C dX12_levelAt_12 rfl 0 rfl ?_
    refine g_iload_n (pc := 13) C dX12_levelAt_13 rfl 1 rfl ?_
    refine g_callV (pc := 14) C 12 (c_X12_highAt (Xl X) (Xb X) a1 S1) gX12_levelAt_X12_highAt rfl rfl rfl hd_X12_highAt ⟨Nat.le_of_ble_eq_true rfl, Nat.le_of_ble_eq_true rfl⟩ (w_12 _ _) rfl rfl rfl (Nat.le_of_ble_eq_true rfl) dX12_levelAt_14 h (fun r4 S3 h => ?_)
    change G X _ S3 17 [(0, .ref (ad X 12)), (1, .int a1)] [.int r4]
    refine g_goto (pc := 17) (tgt := 23) C dX12_levelAt_17 (by decide) ?_
    refine g_weak (lv1 := []) [] rfl ?_
    exact s_X12_levelAt_b23 C r4  S3 h
theorem c_X12_levelAt (l : Launch) (b : Bw) (a1 : Int32) (S : St) : Ct l b yX12_levelAt wsX12_levelAt rmX12_levelAt [.ref (bad b 12), .int a1] S mkI (f_X12_levelAt a1 S) := Ct.of (by decide +kernel) rfl (Nat.le_of_ble_eq_true rfl) (fun X C hl hb r h => by
  subst hl; subst hb
  exact s_X12_levelAt_b0 C a1 S h)
/-! StyleRowsModel.time(I)I -/
set_option maxRecDepth 100000 in
set_option maxHeartbeats 4000000 in
theorem s_X12_time_b89 {X : MC} (C : Cx X cX12_time RX12 wsX12_time 6 rmX12_time (some .int)) {rec4 : Int32 × Int32 × St → Option (Int32 × St)} (v1 : Int32) (v2 : Int32) (v3 : Int32) (hrec4 : ∀ (s : Int32 × Int32 × St) (r : Int32 × St), rec4 s = some r → G X (QM mkI X r) s.2.2 4 [(0, .ref (ad X 12)), (1, .int v1), (2, .int (s.1)), (3, .int (s.2.1))] []) (S : St) {r0 : Int32 × St} (h : f_X12_time_b89 rec4 v1 v2 v3 S = some r0) : G X (QM mkI X r0) S 89 [(0, .ref (ad X 12)), (1, .int v1), (2, .int v2), (3, .int v3)] [] := by
  unfold f_X12_time_b89 at h
  refine g_iinc (pc := 89) (v := v3 + 1) C [(3, .int (v3 + 1)), (0, .ref (ad X 12)), (1, .int v1), (2, .int v2)] dX12_time_89 3 rfl rfl (Nat.le_of_ble_eq_true rfl) rfl ?_
  refine g_goto (pc := 92) (tgt := 4) C dX12_time_92 (by decide) ?_
  refine g_weak (lv1 := [(0, .ref (ad X 12)), (1, .int v1), (2, .int v2), (3, .int (v3 + 1))]) [1, 2, 3, 0] rfl ?_
  exact hrec4 (v2, v3 + 1, S) _ h
set_option maxRecDepth 100000 in
set_option maxHeartbeats 4000000 in
theorem s_X12_time_b4 {X : MC} (C : Cx X cX12_time RX12 wsX12_time 6 rmX12_time (some .int)) {rec4 : Int32 × Int32 × St → Option (Int32 × St)} (v1 : Int32) (v2 : Int32) (v3 : Int32) (hrec4 : ∀ (s : Int32 × Int32 × St) (r : Int32 × St), rec4 s = some r → G X (QM mkI X r) s.2.2 4 [(0, .ref (ad X 12)), (1, .int v1), (2, .int (s.1)), (3, .int (s.2.1))] []) (S : St) {r0 : Int32 × St} (h : f_X12_time_b4 rec4 v1 v2 v3 S = some r0) : G X (QM mkI X r0) S 4 [(0, .ref (ad X 12)), (1, .int v1), (2, .int v2), (3, .int v3)] [] := by
  unfold f_X12_time_b4 at h
  refine g_iload_n (pc := 4) C dX12_time_4 rfl 3 rfl ?_
  refine g_aload_n (pc := 5) C dX12_time_5 rfl 0 rfl ?_
  refine g_get (pc := 6) C 12 (w_12 _ _) rfl 13 (Nat.le_of_ble_eq_true rfl) in_X12_X12_time k108_X12_time rfl dX12_time_6 ?_
  refine g_icmp_ge (pc := 9) (tgt := 95) C h dX12_time_9 (by decide) (fun h => ?_) (fun h => ?_)
  · refine g_iload_n (pc := 95) C dX12_time_95 rfl 1 rfl ?_
    refine g_iload_n (pc := 96) C dX12_time_96 rfl 2 rfl ?_
    refine g_iadd (pc := 97) C dX12_time_97 ?_
    exact g_iret (pc := 98) C h dX12_time_98
  · refine g_iload_n (pc := 12) C dX12_time_12 rfl 1 rfl ?_
    refine g_aload_n (pc := 13) C dX12_time_13 rfl 0 rfl ?_
    refine g_get (pc := 14) C 12 (w_12 _ _) rfl 14 (Nat.le_of_ble_eq_true rfl) in_X12_X12_time k42_X12_time rfl dX12_time_14 ?_
    refine g_iload_n (pc := 17) C dX12_time_17 rfl 3 rfl ?_
    refine g_iald (pc := 18) C 57 (w_57 _ _) h dX12_time_18 (fun h => ?_)
    refine g_icmp_le (pc := 19) (tgt := 89) C h dX12_time_19 (by decide) (fun h => ?_) (fun h => ?_)
    · refine g_weak (lv1 := [(0, .ref (ad X 12)), (1, .int v1), (2, .int v2), (3, .int v3)]) [0, 1, 2, 3] rfl ?_
      exact s_X12_time_b89 C v1 v2 v3 hrec4  S h
    · refine g_iload_n (pc := 22) C dX12_time_22 rfl 1 rfl ?_
      refine g_aload_n (pc := 23) C dX12_time_23 rfl 0 rfl ?_
      refine g_get (pc := 24) C 12 (w_12 _ _) rfl 15 (Nat.le_of_ble_eq_true rfl) in_X12_X12_time k45_X12_time rfl dX12_time_24 ?_
      refine g_iload_n (pc := 27) C dX12_time_27 rfl 3 rfl ?_
      refine g_iald (pc := 28) C 58 (w_58 _ _) h dX12_time_28 (fun h => ?_)
      refine g_icmp_ge (pc := 29) (tgt := 89) C h dX12_time_29 (by decide) (fun h => ?_) (fun h => ?_)
      · refine g_weak (lv1 := [(0, .ref (ad X 12)), (1, .int v1), (2, .int v2), (3, .int v3)]) [0, 1, 2, 3] rfl ?_
        exact s_X12_time_b89 C v1 v2 v3 hrec4  S h
      · refine g_aload_n (pc := 32) C dX12_time_32 rfl 0 rfl ?_
        refine g_get (pc := 33) C 12 (w_12 _ _) rfl 15 (Nat.le_of_ble_eq_true rfl) in_X12_X12_time k45_X12_time rfl dX12_time_33 ?_
        refine g_iload_n (pc := 36) C dX12_time_36 rfl 3 rfl ?_
        refine g_iald (pc := 37) C 58 (w_58 _ _) h dX12_time_37 (fun h => ?_)
        refine g_aload_n (pc := 38) C dX12_time_38 rfl 0 rfl ?_
        refine g_get (pc := 39) C 12 (w_12 _ _) rfl 14 (Nat.le_of_ble_eq_true rfl) in_X12_X12_time k42_X12_time rfl dX12_time_39 ?_
        refine g_iload_n (pc := 42) C dX12_time_42 rfl 3 rfl ?_
        refine g_iald (pc := 43) C 57 (w_57 _ _) h dX12_time_43 (fun h => ?_)
        refine g_isub (pc := 44) C dX12_time_44 ?_
        refine g_i2l (pc := 45) C dX12_time_45 ?_
        refine g_letl h (fun y1 h => ?_)
        refine g_lstore (pc := 46) C [(4, .long y1), (0, .ref (ad X 12)), (1, .int v1), (2, .int v2), (3, .int v3)] dX12_time_46 (Nat.le_of_ble_eq_true rfl) rfl ?_
        refine g_ldc2 (pc := 48) (v := 4) C k123_X12_time dX12_time_48 ?_
        refine g_aload_n (pc := 51) C dX12_time_51 rfl 1 rfl ?_
        refine g_get (pc := 52) C 12 (w_12 _ _) rfl 16 (Nat.le_of_ble_eq_true rfl) in_X12_X12_time k48_X12_time rfl dX12_time_52 ?_
        refine g_iload_n (pc := 55) C dX12_time_55 rfl 4 rfl ?_
        refine g_iald (pc := 56) C 59 (w_59 _ _) h dX12_time_56 (fun h => ?_)
        refine g_i2l (pc := 57) C dX12_time_57 ?_
        refine g_lmul (pc := 58) C dX12_time_58 ?_
        refine g_iload_n (pc := 59) C dX12_time_59 rfl 2 rfl ?_
        refine g_aload_n (pc := 60) C dX12_time_60 rfl 1 rfl ?_
        refine g_get (pc := 61) C 12 (w_12 _ _) rfl 14 (Nat.le_of_ble_eq_true rfl) in_X12_X12_time k42_X12_time rfl dX12_time_61 ?_
        refine g_iload_n (pc := 64) C dX12_time_64 rfl 4 rfl ?_
        refine g_iald (pc := 65) C 57 (w_57 _ _) h dX12_time_65 (fun h => ?_)
        refine g_isub (pc := 66) C dX12_time_66 ?_
        refine g_i2l (pc := 67) C dX12_time_67 ?_
        refine g_lmul (pc := 68) C dX12_time_68 ?_
        refine g_aload_n (pc := 69) C dX12_time_69 rfl 1 rfl ?_
        refine g_get (pc := 70) C 12 (w_12 _ _) rfl 15 (Nat.le_of_ble_eq_true rfl) in_X12_X12_time k45_X12_time rfl dX12_time_70 ?_
        refine g_iload_n (pc := 73) C dX12_time_73 rfl 4 rfl ?_
        refine g_iald (pc := 74) C 58 (w_58 _ _) h dX12_time_74 (fun h => ?_)
        refine g_iload_n (pc := 75) C dX12_time_75 rfl 2 rfl ?_
        refine g_isub (pc := 76) C dX12_time_76 ?_
        refine g_i2l (pc := 77) C dX12_time_77 ?_
        refine g_lmul (pc := 78) C dX12_time_78 ?_
        refine g_lload (pc := 79) C dX12_time_79 0 rfl ?_
        refine g_lload (pc := 81) C dX12_time_81 0 rfl ?_
        refine g_lmul (pc := 83) C dX12_time_83 ?_
        refine g_callS (pc := 84) C (c_X12_floor (Xl X) (Xb X) (((4 * (Int32.toInt64 (rd S 59 v3))) * (Int32.toInt64 (v1 - (rd S 57 v3)))) * (Int32.toInt64 ((rd S 58 v3) - v1))) (y1 * y1) S) gX12_time_X12_floor rfl rfl rfl hd_X12_floor ⟨Nat.le_of_ble_eq_true rfl, Nat.le_of_ble_eq_true rfl⟩ rfl rfl (Nat.le_of_ble_eq_true rfl) dX12_time_84 h (fun r3 S2 h => ?_)
        change G X _ S2 87 [(4, .long y1), (0, .ref (ad X 12)), (1, .int v1), (2, .int v2), (3, .int v3)] [.long r3]
        refine g_l2i (pc := 87) C dX12_time_87 ?_
        refine g_leti h (fun x4 h => ?_)
        refine g_istore_n (pc := 88) C [(2, .int x4), (4, .long y1), (0, .ref (ad X 12)), (1, .int v1), (3, .int v3)] dX12_time_88 rfl (Nat.le_of_ble_eq_true rfl) rfl ?_
        refine g_weak (lv1 := [(0, .ref (ad X 12)), (1, .int v1), (2, .int x4), (3, .int v3)]) [2, 3, 0, 4] rfl ?_
        exact s_X12_time_b89 C v1 x4 v3 hrec4  S2 h
set_option maxRecDepth 100000 in
set_option maxHeartbeats 4000000 in
theorem s_X12_time_l4 {X : MC} (C : Cx X cX12_time RX12 wsX12_time 6 rmX12_time (some .int)) (v1 : Int32) : ∀ (n : Nat) (s : Int32 × Int32 × St) (r : Int32 × St), f_X12_time_l4 v1 n s = some r → G X (QM mkI X r) s.2.2 4 [(0, .ref (ad X 12)), (1, .int v1), (2, .int (s.1)), (3, .int (s.2.1))] [] :=
  loop_sound (fun rec4 hrec4 s r h => s_X12_time_b4 C v1 s.1 s.2.1 hrec4 s.2.2 h)
set_option maxRecDepth 100000 in
set_option maxHeartbeats 4000000 in
theorem s_X12_time_b0 {X : MC} (C : Cx X cX12_time RX12 wsX12_time 6 rmX12_time (some .int)) (a1 : Int32) (S : St) {r0 : Int32 × St} (h : f_X12_time_b0 a1 S = some r0) : G X (QM mkI X r0) S 0 [(0, .ref (ad X 12)), (1, .int a1)] [] := by
  unfold f_X12_time_b0 at h
  refine g_iconst (pc := 0) (v := 0) C dX12_time_0 (by decide) ?_
  refine g_istore_n (pc := 1) C [(2, .int 0), (0, .ref (ad X 12)), (1, .int a1)] dX12_time_1 rfl (Nat.le_of_ble_eq_true rfl) rfl ?_
  refine g_iconst (pc := 2) (v := 0) C dX12_time_2 (by decide) ?_
  refine g_istore_n (pc := 3) C [(3, .int 0), (2, .int 0), (0, .ref (ad X 12)), (1, .int a1)] dX12_time_3 rfl (Nat.le_of_ble_eq_true rfl) rfl ?_
  refine g_weak (lv1 := [(0, .ref (ad X 12)), (1, .int a1), (2, .int 0), (3, .int 0)]) [2, 3, 1, 0] rfl ?_
  exact s_X12_time_l4 C a1 _ (0, 0, S) _ h
theorem c_X12_time (l : Launch) (b : Bw) (a1 : Int32) (S : St) : Ct l b yX12_time wsX12_time rmX12_time [.ref (bad b 12), .int a1] S mkI (f_X12_time a1 S) := Ct.of (by decide +kernel) rfl (Nat.le_of_ble_eq_true rfl) (fun X C hl hb r h => by
  subst hl; subst hb
  exact s_X12_time_b0 C a1 S h)
/-! StyleRowsModel.timeOf(I)I -/
set_option maxRecDepth 100000 in
set_option maxHeartbeats 4000000 in
theorem s_X12_timeOf_b23 {X : MC} (C : Cx X cX12_timeOf RX12 wsX12_timeOf 2 rmX12_timeOf (some .int)) (w0 : Int32) (S : St) {r0 : Int32 × St} (h : f_X12_timeOf_b23 w0 S = some r0) : G X (QM mkI X r0) S 23 [] [.int w0] := by
  unfold f_X12_timeOf_b23 at h
  exact g_iret (pc := 23) C h dX12_timeOf_23
set_option maxRecDepth 100000 in
set_option maxHeartbeats 4000000 in
theorem s_X12_timeOf_b0 {X : MC} (C : Cx X cX12_timeOf RX12 wsX12_timeOf 2 rmX12_timeOf (some .int)) (a1 : Int32) (S : St) {r0 : Int32 × St} (h : f_X12_timeOf_b0 a1 S = some r0) : G X (QM mkI X r0) S 0 [(0, .ref (ad X 12)), (1, .int a1)] [] := by
  unfold f_X12_timeOf_b0 at h
  refine g_iload_n (pc := 0) C dX12_timeOf_0 rfl 1 rfl ?_
  refine g_i2l (pc := 1) C dX12_timeOf_1 ?_
  refine g_lconst (pc := 2) (v := 0) C dX12_timeOf_2 (by decide) ?_
  refine g_ldc2 (pc := 3) (v := 20000) C k99_X12_timeOf dX12_timeOf_3 ?_
  refine g_callS (pc := 6) C (c_X12_in (Xl X) (Xb X) (Int32.toInt64 a1) 0 20000 S) gX12_timeOf_X12_in rfl rfl rfl hd_X12_in ⟨Nat.le_of_ble_eq_true rfl, Nat.le_of_ble_eq_true rfl⟩ rfl rfl (Nat.le_of_ble_eq_true rfl) dX12_timeOf_6 h (fun r2 S1 h => ?_)
  change G X _ S1 9 [(0, .ref (ad X 12)), (1, .int a1)] [.int r2]
  refine g_if_eq (pc := 9) (tgt := 20) C h dX12_timeOf_9 (by decide) (fun h => ?_) (fun h => ?_)
  · refine g_sipush (pc := 20) (v := (-1002)) C dX12_timeOf_20 (by decide) ?_
    refine g_weak (lv1 := []) [] rfl ?_
    exact s_X12_timeOf_b23 C (-1002)  S1 h
  · refine g_aload_n (pc := 12) C dX12_timeOf_12 rfl 0 rfl ?_
    refine g_iload_n (pc := 13) C dX12_timeOf_13 rfl 1 rfl ?_
    refine g_callV (pc := 14) C 12 (c_X12_time (Xl X) (Xb X) a1 S1) gX12_timeOf_X12_time rfl rfl rfl hd_X12_time ⟨Nat.le_of_ble_eq_true rfl, Nat.le_of_ble_eq_true rfl⟩ (w_12 _ _) rfl rfl rfl (Nat.le_of_ble_eq_true rfl) dX12_timeOf_14 h (fun r4 S3 h => ?_)
    change G X _ S3 17 [(0, .ref (ad X 12)), (1, .int a1)] [.int r4]
    refine g_goto (pc := 17) (tgt := 23) C dX12_timeOf_17 (by decide) ?_
    refine g_weak (lv1 := []) [] rfl ?_
    exact s_X12_timeOf_b23 C r4  S3 h
theorem c_X12_timeOf (l : Launch) (b : Bw) (a1 : Int32) (S : St) : Ct l b yX12_timeOf wsX12_timeOf rmX12_timeOf [.ref (bad b 12), .int a1] S mkI (f_X12_timeOf a1 S) := Ct.of (by decide +kernel) rfl (Nat.le_of_ble_eq_true rfl) (fun X C hl hb r h => by
  subst hl; subst hb
  exact s_X12_timeOf_b0 C a1 S h)
/-! StyleRowsModel.feed(IJ)I -/
set_option maxRecDepth 100000 in
set_option maxHeartbeats 4000000 in
theorem s_X12_feed_b37 {X : MC} (C : Cx X cX12_feed RX12 wsX12_feed 5 rmX12_feed (some .int)) {rec37 : Int32 × St → Option (Int32 × St)} (v2 : Int64) (v4 : Int32) (hrec37 : ∀ (s : Int32 × St) (r : Int32 × St), rec37 s = some r → G X (QM mkI X r) s.2 37 [(0, .ref (ad X 12)), (2, .long v2), (4, .int (s.1))] []) (S : St) {r0 : Int32 × St} (h : f_X12_feed_b37 rec37 v2 v4 S = some r0) : G X (QM mkI X r0) S 37 [(0, .ref (ad X 12)), (2, .long v2), (4, .int v4)] [] := by
  unfold f_X12_feed_b37 at h
  refine g_iload (pc := 37) C dX12_feed_37 2 rfl ?_
  refine g_if_lt (pc := 39) (tgt := 79) C h dX12_feed_39 (by decide) (fun h => ?_) (fun h => ?_)
  · refine g_aload_n (pc := 79) C dX12_feed_79 rfl 0 rfl ?_
    refine g_get (pc := 80) C 12 (w_12 _ _) rfl 22 (Nat.le_of_ble_eq_true rfl) in_X12_X12_feed k130_X12_feed rfl dX12_feed_80 ?_
    exact g_iret (pc := 83) C h dX12_feed_83
  · refine g_aload_n (pc := 42) C dX12_feed_42 rfl 0 rfl ?_
    refine g_get (pc := 43) C 12 (w_12 _ _) rfl 23 (Nat.le_of_ble_eq_true rfl) in_X12_X12_feed k63_X12_feed rfl dX12_feed_43 ?_
    refine g_aload_n (pc := 46) C dX12_feed_46 rfl 0 rfl ?_
    refine g_get (pc := 47) C 12 (w_12 _ _) rfl 22 (Nat.le_of_ble_eq_true rfl) in_X12_X12_feed k130_X12_feed rfl dX12_feed_47 ?_
    refine g_lload_n (pc := 50) C dX12_feed_50 rfl 1 rfl ?_
    refine g_bipush (pc := 51) (v := 8) C dX12_feed_51 (by decide) ?_
    refine g_iload (pc := 53) C dX12_feed_53 2 rfl ?_
    refine g_imul (pc := 55) C dX12_feed_55 ?_
    refine g_lshr (pc := 56) C dX12_feed_56 ?_
    refine g_ldc2 (pc := 57) (v := 255) C k133_X12_feed dX12_feed_57 ?_
    refine g_land (pc := 60) C dX12_feed_60 ?_
    refine g_l2i (pc := 61) C dX12_feed_61 ?_
    refine g_iast (pc := 62) C 64 (w_64 _ _) (ws_64 _ _) h dX12_feed_62 (fun S4 h => ?_)
    refine g_aload_n (pc := 63) C dX12_feed_63 rfl 0 rfl ?_
    refine g_dup (pc := 64) C dX12_feed_64 rfl ?_
    refine g_get (pc := 65) C 12 (w_12 _ _) rfl 22 (Nat.le_of_ble_eq_true rfl) in_X12_X12_feed k130_X12_feed rfl dX12_feed_65 ?_
    refine g_iconst (pc := 68) (v := 1) C dX12_feed_68 (by decide) ?_
    refine g_iadd (pc := 69) C dX12_feed_69 ?_
    refine g_put (pc := 70) C 12 (w_12 _ _) rfl 22 (Nat.le_of_ble_eq_true rfl) in_X12_X12_feed tyX12_ok nmX12 k130_X12_feed rfl rfl rfl (Nat.le_of_ble_eq_true rfl) (ws_12_22 _ _ _) dX12_feed_70 h (fun S5 h => ?_)
    refine g_iinc (pc := 73) (v := v4 + (-1)) C [(4, .int (v4 + (-1))), (0, .ref (ad X 12)), (2, .long v2)] dX12_feed_73 2 rfl rfl (Nat.le_of_ble_eq_true rfl) rfl ?_
    refine g_goto (pc := 76) (tgt := 37) C dX12_feed_76 (by decide) ?_
    refine g_weak (lv1 := [(0, .ref (ad X 12)), (2, .long v2), (4, .int (v4 + (-1)))]) [1, 2, 0] rfl ?_
    exact hrec37 (v4 + (-1), S5) _ h
set_option maxRecDepth 100000 in
set_option maxHeartbeats 4000000 in
theorem s_X12_feed_l37 {X : MC} (C : Cx X cX12_feed RX12 wsX12_feed 5 rmX12_feed (some .int)) (v2 : Int64) : ∀ (n : Nat) (s : Int32 × St) (r : Int32 × St), f_X12_feed_l37 v2 n s = some r → G X (QM mkI X r) s.2 37 [(0, .ref (ad X 12)), (2, .long v2), (4, .int (s.1))] [] :=
  loop_sound (fun rec37 hrec37 s r h => s_X12_feed_b37 C v2 s.1 hrec37 s.2 h)
set_option maxRecDepth 100000 in
set_option maxHeartbeats 4000000 in
theorem s_X12_feed_b0 {X : MC} (C : Cx X cX12_feed RX12 wsX12_feed 5 rmX12_feed (some .int)) (a1 : Int32) (a2 : Int64) (S : St) {r0 : Int32 × St} (h : f_X12_feed_b0 a1 a2 S = some r0) : G X (QM mkI X r0) S 0 [(0, .ref (ad X 12)), (1, .int a1), (2, .long a2)] [] := by
  unfold f_X12_feed_b0 at h
  refine g_iload_n (pc := 0) C dX12_feed_0 rfl 1 rfl ?_
  refine g_i2l (pc := 1) C dX12_feed_1 ?_
  refine g_lconst (pc := 2) (v := 1) C dX12_feed_2 (by decide) ?_
  refine g_ldc2 (pc := 3) (v := 8) C k128_X12_feed dX12_feed_3 ?_
  refine g_callS (pc := 6) C (c_X12_in (Xl X) (Xb X) (Int32.toInt64 a1) 1 8 S) gX12_feed_X12_in rfl rfl rfl hd_X12_in ⟨Nat.le_of_ble_eq_true rfl, Nat.le_of_ble_eq_true rfl⟩ rfl rfl (Nat.le_of_ble_eq_true rfl) dX12_feed_6 h (fun r2 S1 h => ?_)
  change G X _ S1 9 [(0, .ref (ad X 12)), (1, .int a1), (2, .long a2)] [.int r2]
  refine g_if_ne (pc := 9) (tgt := 16) C h dX12_feed_9 (by decide) (fun h => ?_) (fun h => ?_)
  · refine g_aload_n (pc := 16) C dX12_feed_16 rfl 0 rfl ?_
    refine g_get (pc := 17) C 12 (w_12 _ _) rfl 22 (Nat.le_of_ble_eq_true rfl) in_X12_X12_feed k130_X12_feed rfl dX12_feed_17 ?_
    refine g_iload_n (pc := 20) C dX12_feed_20 rfl 1 rfl ?_
    refine g_iadd (pc := 21) C dX12_feed_21 ?_
    refine g_sipush (pc := 22) (v := 400) C dX12_feed_22 (by decide) ?_
    refine g_icmp_le (pc := 25) (tgt := 32) C h dX12_feed_25 (by decide) (fun h => ?_) (fun h => ?_)
    · refine g_iload_n (pc := 32) C dX12_feed_32 rfl 1 rfl ?_
      refine g_iconst (pc := 33) (v := 1) C dX12_feed_33 (by decide) ?_
      refine g_isub (pc := 34) C dX12_feed_34 ?_
      refine g_leti h (fun x3 h => ?_)
      refine g_istore (pc := 35) C [(4, .int x3), (0, .ref (ad X 12)), (1, .int a1), (2, .long a2)] dX12_feed_35 (Nat.le_of_ble_eq_true rfl) rfl ?_
      refine g_weak (lv1 := [(0, .ref (ad X 12)), (2, .long a2), (4, .int x3)]) [1, 3, 0] rfl ?_
      exact s_X12_feed_l37 C a2 _ (x3, S1) _ h
    · refine g_sipush (pc := 28) (v := (-1004)) C dX12_feed_28 (by decide) ?_
      exact g_iret (pc := 31) C h dX12_feed_31
  · refine g_sipush (pc := 12) (v := (-1002)) C dX12_feed_12 (by decide) ?_
    exact g_iret (pc := 15) C h dX12_feed_15
theorem c_X12_feed (l : Launch) (b : Bw) (a1 : Int32) (a2 : Int64) (S : St) : Ct l b yX12_feed wsX12_feed rmX12_feed [.ref (bad b 12), .int a1, .long a2] S mkI (f_X12_feed a1 a2 S) := Ct.of (by decide +kernel) rfl (Nat.le_of_ble_eq_true rfl) (fun X C hl hb r h => by
  subst hl; subst hb
  exact s_X12_feed_b0 C a1 a2 S h)
/-! StyleRowsModel.at(I)I -/
set_option maxRecDepth 100000 in
set_option maxHeartbeats 4000000 in
theorem s_X12_at_b18 {X : MC} (C : Cx X cX12_at RX12 wsX12_at 2 rmX12_at (some .int)) (w0 : Int32) (S : St) {r0 : Int32 × St} (h : f_X12_at_b18 w0 S = some r0) : G X (QM mkI X r0) S 18 [] [.int w0] := by
  unfold f_X12_at_b18 at h
  exact g_iret (pc := 18) C h dX12_at_18
set_option maxRecDepth 100000 in
set_option maxHeartbeats 4000000 in
theorem s_X12_at_b0 {X : MC} (C : Cx X cX12_at RX12 wsX12_at 2 rmX12_at (some .int)) (a1 : Int32) (S : St) {r0 : Int32 × St} (h : f_X12_at_b0 a1 S = some r0) : G X (QM mkI X r0) S 0 [(0, .ref (ad X 12)), (1, .int a1)] [] := by
  unfold f_X12_at_b0 at h
  refine g_iload_n (pc := 0) C dX12_at_0 rfl 1 rfl ?_
  refine g_aload_n (pc := 1) C dX12_at_1 rfl 0 rfl ?_
  refine g_get (pc := 2) C 12 (w_12 _ _) rfl 22 (Nat.le_of_ble_eq_true rfl) in_X12_X12_at k130_X12_at rfl dX12_at_2 ?_
  refine g_icmp_ge (pc := 5) (tgt := 17) C h dX12_at_5 (by decide) (fun h => ?_) (fun h => ?_)
  · refine g_iconst (pc := 17) (v := (-1)) C dX12_at_17 (by decide) ?_
    refine g_weak (lv1 := []) [] rfl ?_
    exact s_X12_at_b18 C (-1)  S h
  · refine g_aload_n (pc := 8) C dX12_at_8 rfl 0 rfl ?_
    refine g_get (pc := 9) C 12 (w_12 _ _) rfl 23 (Nat.le_of_ble_eq_true rfl) in_X12_X12_at k63_X12_at rfl dX12_at_9 ?_
    refine g_iload_n (pc := 12) C dX12_at_12 rfl 1 rfl ?_
    refine g_iald (pc := 13) C 64 (w_64 _ _) h dX12_at_13 (fun h => ?_)
    refine g_goto (pc := 14) (tgt := 18) C dX12_at_14 (by decide) ?_
    refine g_weak (lv1 := []) [] rfl ?_
    exact s_X12_at_b18 C (rd S 64 a1)  S h
theorem c_X12_at (l : Launch) (b : Bw) (a1 : Int32) (S : St) : Ct l b yX12_at wsX12_at rmX12_at [.ref (bad b 12), .int a1] S mkI (f_X12_at a1 S) := Ct.of (by decide +kernel) rfl (Nat.le_of_ble_eq_true rfl) (fun X C hl hb r h => by
  subst hl; subst hb
  exact s_X12_at_b0 C a1 S h)
/-! StyleRowsModel.take()V -/
set_option maxRecDepth 100000 in
set_option maxHeartbeats 4000000 in
theorem s_X12_take_b26 {X : MC} (C : Cx X cX12_take RX12 wsX12_take 1 rmX12_take none) {rec0 : St → Option (Unit × St)} (hrec0 : ∀ (s : St) (r : Unit × St), rec0 s = some r → G X (QM mkV X r) s 0 [(0, .ref (ad X 12))] []) (S : St) {r0 : Unit × St} (h : f_X12_take_b26 rec0 S = some r0) : G X (QM mkV X r0) S 26 [(0, .ref (ad X 12))] [] := by
  unfold f_X12_take_b26 at h
  refine g_aload_n (pc := 26) C dX12_take_26 rfl 0 rfl ?_
  refine g_dup (pc := 27) C dX12_take_27 rfl ?_
  refine g_get (pc := 28) C 12 (w_12 _ _) rfl 26 (Nat.le_of_ble_eq_true rfl) in_X12_X12_take k135_X12_take rfl dX12_take_28 ?_
  refine g_iconst (pc := 31) (v := 1) C dX12_take_31 (by decide) ?_
  refine g_iadd (pc := 32) C dX12_take_32 ?_
  refine g_put (pc := 33) C 12 (w_12 _ _) rfl 26 (Nat.le_of_ble_eq_true rfl) in_X12_X12_take tyX12_ok nmX12 k135_X12_take rfl rfl rfl (Nat.le_of_ble_eq_true rfl) (ws_12_26 _ _ _) dX12_take_33 h (fun S3 h => ?_)
  refine g_goto (pc := 36) (tgt := 0) C dX12_take_36 (by decide) ?_
  refine g_weak (lv1 := [(0, .ref (ad X 12))]) [0] rfl ?_
  exact hrec0 S3 _ h
set_option maxRecDepth 100000 in
set_option maxHeartbeats 4000000 in
theorem s_X12_take_b310 {X : MC} (C : Cx X cX12_take RX12 wsX12_take 1 rmX12_take none) (S : St) {r0 : Unit × St} (h : f_X12_take_b310 S = some r0) : G X (QM mkV X r0) S 310 [] [] := by
  unfold f_X12_take_b310 at h
  exact g_vret (pc := 310) C h dX12_take_310
set_option maxRecDepth 100000 in
set_option maxHeartbeats 4000000 in
theorem s_X12_take_b297 {X : MC} (C : Cx X cX12_take RX12 wsX12_take 1 rmX12_take none) (w1 : Int32) (S : St) {r0 : Unit × St} (h : f_X12_take_b297 w1 S = some r0) : G X (QM mkV X r0) S 297 [(0, .ref (ad X 12))] [.int w1, .ref (ad X 12)] := by
  unfold f_X12_take_b297 at h
  refine g_put (pc := 297) C 12 (w_12 _ _) rfl 24 (Nat.le_of_ble_eq_true rfl) in_X12_X12_take tyX12_ok nmX12 k151_X12_take rfl rfl rfl (Nat.le_of_ble_eq_true rfl) (ws_12_24 _ _ _) dX12_take_297 h (fun S20 h => ?_)
  refine g_aload_n (pc := 300) C dX12_take_300 rfl 0 rfl ?_
  refine g_dup (pc := 301) C dX12_take_301 rfl ?_
  refine g_get (pc := 302) C 12 (w_12 _ _) rfl 26 (Nat.le_of_ble_eq_true rfl) in_X12_X12_take k135_X12_take rfl dX12_take_302 ?_
  refine g_iconst (pc := 305) (v := 1) C dX12_take_305 (by decide) ?_
  refine g_iadd (pc := 306) C dX12_take_306 ?_
  refine g_put (pc := 307) C 12 (w_12 _ _) rfl 26 (Nat.le_of_ble_eq_true rfl) in_X12_X12_take tyX12_ok nmX12 k135_X12_take rfl rfl rfl (Nat.le_of_ble_eq_true rfl) (ws_12_26 _ _ _) dX12_take_307 h (fun S21 h => ?_)
  refine g_weak (lv1 := []) [] rfl ?_
  exact s_X12_take_b310 C   S21 h
set_option maxRecDepth 100000 in
set_option maxHeartbeats 4000000 in
theorem s_X12_take_b246 {X : MC} (C : Cx X cX12_take RX12 wsX12_take 1 rmX12_take none) {rec184 : St → Option (Unit × St)} (w1 : Int64) (hrec184 : ∀ (s : St) (r : Unit × St), rec184 s = some r → G X (QM mkV X r) s 184 [(0, .ref (ad X 12))] []) (S : St) {r0 : Unit × St} (h : f_X12_take_b246 rec184 w1 S = some r0) : G X (QM mkV X r0) S 246 [(0, .ref (ad X 12))] [.long w1, .ref (ad X 12)] := by
  unfold f_X12_take_b246 at h
  refine g_put (pc := 246) C 12 (w_12 _ _) rfl 27 (Nat.le_of_ble_eq_true rfl) in_X12_X12_take tyX12_ok nmX12 k144_X12_take rfl rfl rfl (Nat.le_of_ble_eq_true rfl) (ws_12_27 _ _ _) dX12_take_246 h (fun S29 h => ?_)
  refine g_aload_n (pc := 249) C dX12_take_249 rfl 0 rfl ?_
  refine g_dup (pc := 250) C dX12_take_250 rfl ?_
  refine g_get (pc := 251) C 12 (w_12 _ _) rfl 26 (Nat.le_of_ble_eq_true rfl) in_X12_X12_take k135_X12_take rfl dX12_take_251 ?_
  refine g_iconst (pc := 254) (v := 1) C dX12_take_254 (by decide) ?_
  refine g_iadd (pc := 255) C dX12_take_255 ?_
  refine g_put (pc := 256) C 12 (w_12 _ _) rfl 26 (Nat.le_of_ble_eq_true rfl) in_X12_X12_take tyX12_ok nmX12 k135_X12_take rfl rfl rfl (Nat.le_of_ble_eq_true rfl) (ws_12_26 _ _ _) dX12_take_256 h (fun S30 h => ?_)
  refine g_goto (pc := 259) (tgt := 184) C dX12_take_259 (by decide) ?_
  refine g_weak (lv1 := [(0, .ref (ad X 12))]) [0] rfl ?_
  exact hrec184 S30 _ h
set_option maxRecDepth 100000 in
set_option maxHeartbeats 4000000 in
theorem s_X12_take_b184 {X : MC} (C : Cx X cX12_take RX12 wsX12_take 1 rmX12_take none) {rec184 : St → Option (Unit × St)} (hrec184 : ∀ (s : St) (r : Unit × St), rec184 s = some r → G X (QM mkV X r) s 184 [(0, .ref (ad X 12))] []) (S : St) {r0 : Unit × St} (h : f_X12_take_b184 rec184 S = some r0) : G X (QM mkV X r0) S 184 [(0, .ref (ad X 12))] [] := by
  unfold f_X12_take_b184 at h
  refine g_aload_n (pc := 184) C dX12_take_184 rfl 0 rfl ?_
  refine g_aload_n (pc := 185) C dX12_take_185 rfl 0 rfl ?_
  refine g_get (pc := 186) C 12 (w_12 _ _) rfl 26 (Nat.le_of_ble_eq_true rfl) in_X12_X12_take k135_X12_take rfl dX12_take_186 ?_
  refine g_callV (pc := 189) C 12 (c_X12_at (Xl X) (Xb X) (gI S 32) S) gX12_take_X12_at rfl rfl rfl hd_X12_at ⟨Nat.le_of_ble_eq_true rfl, Nat.le_of_ble_eq_true rfl⟩ (w_12 _ _) rfl rfl rfl (Nat.le_of_ble_eq_true rfl) dX12_take_189 h (fun r24 S23 h => ?_)
  change G X _ S23 192 [(0, .ref (ad X 12))] [.int r24]
  refine g_i2l (pc := 192) C dX12_take_192 ?_
  refine g_ldc2 (pc := 193) (v := 48) C k160_X12_take dX12_take_193 ?_
  refine g_ldc2 (pc := 196) (v := 57) C k162_X12_take dX12_take_196 ?_
  refine g_callS (pc := 199) C (c_X12_in (Xl X) (Xb X) (Int32.toInt64 r24) 48 57 S23) gX12_take_X12_in rfl rfl rfl hd_X12_in ⟨Nat.le_of_ble_eq_true rfl, Nat.le_of_ble_eq_true rfl⟩ rfl rfl (Nat.le_of_ble_eq_true rfl) dX12_take_199 h (fun r26 S25 h => ?_)
  change G X _ S25 202 [(0, .ref (ad X 12))] [.int r26]
  refine g_if_eq (pc := 202) (tgt := 310) C h dX12_take_202 (by decide) (fun h => ?_) (fun h => ?_)
  · refine g_weak (lv1 := []) [] rfl ?_
    exact s_X12_take_b310 C   S25 h
  · refine g_aload_n (pc := 205) C dX12_take_205 rfl 0 rfl ?_
    refine g_aload_n (pc := 206) C dX12_take_206 rfl 0 rfl ?_
    refine g_get (pc := 207) C 12 (w_12 _ _) rfl 27 (Nat.le_of_ble_eq_true rfl) in_X12_X12_take k144_X12_take rfl dX12_take_207 ?_
    refine g_ldc2 (pc := 210) (v := 100000) C k164_X12_take dX12_take_210 ?_
    refine g_lcmp (pc := 213) C dX12_take_213 ?_
    refine g_if_le (pc := 214) (tgt := 224) C h dX12_take_214 (by decide) (fun h => ?_) (fun h => ?_)
    · refine g_aload_n (pc := 224) C dX12_take_224 rfl 0 rfl ?_
      refine g_get (pc := 225) C 12 (w_12 _ _) rfl 27 (Nat.le_of_ble_eq_true rfl) in_X12_X12_take k144_X12_take rfl dX12_take_225 ?_
      refine g_ldc2 (pc := 228) (v := 10) C k166_X12_take dX12_take_228 ?_
      refine g_lmul (pc := 231) C dX12_take_231 ?_
      refine g_aload_n (pc := 232) C dX12_take_232 rfl 0 rfl ?_
      refine g_aload_n (pc := 233) C dX12_take_233 rfl 0 rfl ?_
      refine g_get (pc := 234) C 12 (w_12 _ _) rfl 26 (Nat.le_of_ble_eq_true rfl) in_X12_X12_take k135_X12_take rfl dX12_take_234 ?_
      refine g_callV (pc := 237) C 12 (c_X12_at (Xl X) (Xb X) (gI S25 32) S25) gX12_take_X12_at rfl rfl rfl hd_X12_at ⟨Nat.le_of_ble_eq_true rfl, Nat.le_of_ble_eq_true rfl⟩ (w_12 _ _) rfl rfl rfl (Nat.le_of_ble_eq_true rfl) dX12_take_237 h (fun r28 S27 h => ?_)
      change G X _ S27 240 [(0, .ref (ad X 12))] [.int r28, .long ((gJ S25 2) * 10), .ref (ad X 12)]
      refine g_i2l (pc := 240) C dX12_take_240 ?_
      refine g_ladd (pc := 241) C dX12_take_241 ?_
      refine g_ldc2 (pc := 242) (v := 48) C k160_X12_take dX12_take_242 ?_
      refine g_lsub (pc := 245) C dX12_take_245 ?_
      refine g_weak (lv1 := [(0, .ref (ad X 12))]) [0] rfl ?_
      exact s_X12_take_b246 C ((((gJ S25 2) * 10) + (Int32.toInt64 r28)) - 48) hrec184  S27 h
    · refine g_aload_n (pc := 217) C dX12_take_217 rfl 0 rfl ?_
      refine g_get (pc := 218) C 12 (w_12 _ _) rfl 27 (Nat.le_of_ble_eq_true rfl) in_X12_X12_take k144_X12_take rfl dX12_take_218 ?_
      refine g_goto (pc := 221) (tgt := 246) C dX12_take_221 (by decide) ?_
      refine g_weak (lv1 := [(0, .ref (ad X 12))]) [0] rfl ?_
      exact s_X12_take_b246 C (gJ S25 2) hrec184  S25 h
set_option maxRecDepth 100000 in
set_option maxHeartbeats 4000000 in
theorem s_X12_take_l184 {X : MC} (C : Cx X cX12_take RX12 wsX12_take 1 rmX12_take none) : ∀ (n : Nat) (s : St) (r : Unit × St), f_X12_take_l184 n s = some r → G X (QM mkV X r) s 184 [(0, .ref (ad X 12))] [] :=
  loop_sound (fun rec184 hrec184 s r h => s_X12_take_b184 C  hrec184 s h)
set_option maxRecDepth 100000 in
set_option maxHeartbeats 4000000 in
theorem s_X12_take_b142 {X : MC} (C : Cx X cX12_take RX12 wsX12_take 1 rmX12_take none) {rec78 : St → Option (Unit × St)} (w1 : Int64) (hrec78 : ∀ (s : St) (r : Unit × St), rec78 s = some r → G X (QM mkV X r) s 78 [(0, .ref (ad X 12))] []) (S : St) {r0 : Unit × St} (h : f_X12_take_b142 rec78 w1 S = some r0) : G X (QM mkV X r0) S 142 [(0, .ref (ad X 12))] [.long w1, .ref (ad X 12)] := by
  unfold f_X12_take_b142 at h
  refine g_put (pc := 142) C 12 (w_12 _ _) rfl 27 (Nat.le_of_ble_eq_true rfl) in_X12_X12_take tyX12_ok nmX12 k144_X12_take rfl rfl rfl (Nat.le_of_ble_eq_true rfl) (ws_12_27 _ _ _) dX12_take_142 h (fun S36 h => ?_)
  refine g_aload_n (pc := 145) C dX12_take_145 rfl 0 rfl ?_
  refine g_dup (pc := 146) C dX12_take_146 rfl ?_
  refine g_get (pc := 147) C 12 (w_12 _ _) rfl 26 (Nat.le_of_ble_eq_true rfl) in_X12_X12_take k135_X12_take rfl dX12_take_147 ?_
  refine g_iconst (pc := 150) (v := 1) C dX12_take_150 (by decide) ?_
  refine g_iadd (pc := 151) C dX12_take_151 ?_
  refine g_put (pc := 152) C 12 (w_12 _ _) rfl 26 (Nat.le_of_ble_eq_true rfl) in_X12_X12_take tyX12_ok nmX12 k135_X12_take rfl rfl rfl (Nat.le_of_ble_eq_true rfl) (ws_12_26 _ _ _) dX12_take_152 h (fun S37 h => ?_)
  refine g_goto (pc := 155) (tgt := 78) C dX12_take_155 (by decide) ?_
  refine g_weak (lv1 := [(0, .ref (ad X 12))]) [0] rfl ?_
  exact hrec78 S37 _ h
set_option maxRecDepth 100000 in
set_option maxHeartbeats 4000000 in
theorem s_X12_take_b78 {X : MC} (C : Cx X cX12_take RX12 wsX12_take 1 rmX12_take none) {rec78 : St → Option (Unit × St)} (hrec78 : ∀ (s : St) (r : Unit × St), rec78 s = some r → G X (QM mkV X r) s 78 [(0, .ref (ad X 12))] []) (S : St) {r0 : Unit × St} (h : f_X12_take_b78 rec78 S = some r0) : G X (QM mkV X r0) S 78 [(0, .ref (ad X 12))] [] := by
  unfold f_X12_take_b78 at h
  refine g_aload_n (pc := 78) C dX12_take_78 rfl 0 rfl ?_
  refine g_aload_n (pc := 79) C dX12_take_79 rfl 0 rfl ?_
  refine g_get (pc := 80) C 12 (w_12 _ _) rfl 26 (Nat.le_of_ble_eq_true rfl) in_X12_X12_take k135_X12_take rfl dX12_take_80 ?_
  refine g_callV (pc := 83) C 12 (c_X12_at (Xl X) (Xb X) (gI S 32) S) gX12_take_X12_at rfl rfl rfl hd_X12_at ⟨Nat.le_of_ble_eq_true rfl, Nat.le_of_ble_eq_true rfl⟩ (w_12 _ _) rfl rfl rfl (Nat.le_of_ble_eq_true rfl) dX12_take_83 h (fun r33 S32 h => ?_)
  change G X _ S32 86 [(0, .ref (ad X 12))] [.int r33]
  refine g_i2l (pc := 86) C dX12_take_86 ?_
  refine g_ldc2 (pc := 87) (v := 97) C k147_X12_take dX12_take_87 ?_
  refine g_ldc2 (pc := 90) (v := 122) C k149_X12_take dX12_take_90 ?_
  refine g_callS (pc := 93) C (c_X12_in (Xl X) (Xb X) (Int32.toInt64 r33) 97 122 S32) gX12_take_X12_in rfl rfl rfl hd_X12_in ⟨Nat.le_of_ble_eq_true rfl, Nat.le_of_ble_eq_true rfl⟩ rfl rfl (Nat.le_of_ble_eq_true rfl) dX12_take_93 h (fun r35 S34 h => ?_)
  change G X _ S34 96 [(0, .ref (ad X 12))] [.int r35]
  refine g_if_eq (pc := 96) (tgt := 310) C h dX12_take_96 (by decide) (fun h => ?_) (fun h => ?_)
  · refine g_weak (lv1 := []) [] rfl ?_
    exact s_X12_take_b310 C   S34 h
  · refine g_aload_n (pc := 99) C dX12_take_99 rfl 0 rfl ?_
    refine g_aload_n (pc := 100) C dX12_take_100 rfl 0 rfl ?_
    refine g_get (pc := 101) C 12 (w_12 _ _) rfl 26 (Nat.le_of_ble_eq_true rfl) in_X12_X12_take k135_X12_take rfl dX12_take_101 ?_
    refine g_aload_n (pc := 104) C dX12_take_104 rfl 0 rfl ?_
    refine g_get (pc := 105) C 12 (w_12 _ _) rfl 25 (Nat.le_of_ble_eq_true rfl) in_X12_X12_take k141_X12_take rfl dX12_take_105 ?_
    refine g_isub (pc := 108) C dX12_take_108 ?_
    refine g_bipush (pc := 109) (v := 6) C dX12_take_109 (by decide) ?_
    refine g_icmp_ge (pc := 111) (tgt := 139) C h dX12_take_111 (by decide) (fun h => ?_) (fun h => ?_)
    · refine g_ldc2 (pc := 139) (v := (-1)) C k158_X12_take dX12_take_139 ?_
      refine g_weak (lv1 := [(0, .ref (ad X 12))]) [0] rfl ?_
      exact s_X12_take_b142 C (-1) hrec78  S34 h
    · refine g_aload_n (pc := 114) C dX12_take_114 rfl 0 rfl ?_
      refine g_get (pc := 115) C 12 (w_12 _ _) rfl 27 (Nat.le_of_ble_eq_true rfl) in_X12_X12_take k144_X12_take rfl dX12_take_115 ?_
      refine g_ldc2 (pc := 118) (v := 32) C k154_X12_take dX12_take_118 ?_
      refine g_lmul (pc := 121) C dX12_take_121 ?_
      refine g_aload_n (pc := 122) C dX12_take_122 rfl 0 rfl ?_
      refine g_aload_n (pc := 123) C dX12_take_123 rfl 0 rfl ?_
      refine g_get (pc := 124) C 12 (w_12 _ _) rfl 26 (Nat.le_of_ble_eq_true rfl) in_X12_X12_take k135_X12_take rfl dX12_take_124 ?_
      refine g_callV (pc := 127) C 12 (c_X12_at (Xl X) (Xb X) (gI S34 32) S34) gX12_take_X12_at rfl rfl rfl hd_X12_at ⟨Nat.le_of_ble_eq_true rfl, Nat.le_of_ble_eq_true rfl⟩ (w_12 _ _) rfl rfl rfl (Nat.le_of_ble_eq_true rfl) dX12_take_127 h (fun r39 S38 h => ?_)
      change G X _ S38 130 [(0, .ref (ad X 12))] [.int r39, .long ((gJ S34 2) * 32), .ref (ad X 12)]
      refine g_i2l (pc := 130) C dX12_take_130 ?_
      refine g_ladd (pc := 131) C dX12_take_131 ?_
      refine g_ldc2 (pc := 132) (v := 96) C k156_X12_take dX12_take_132 ?_
      refine g_lsub (pc := 135) C dX12_take_135 ?_
      refine g_goto (pc := 136) (tgt := 142) C dX12_take_136 (by decide) ?_
      refine g_weak (lv1 := [(0, .ref (ad X 12))]) [0] rfl ?_
      exact s_X12_take_b142 C ((((gJ S34 2) * 32) + (Int32.toInt64 r39)) - 96) hrec78  S38 h
set_option maxRecDepth 100000 in
set_option maxHeartbeats 4000000 in
theorem s_X12_take_l78 {X : MC} (C : Cx X cX12_take RX12 wsX12_take 1 rmX12_take none) : ∀ (n : Nat) (s : St) (r : Unit × St), f_X12_take_l78 n s = some r → G X (QM mkV X r) s 78 [(0, .ref (ad X 12))] [] :=
  loop_sound (fun rec78 hrec78 s r h => s_X12_take_b78 C  hrec78 s h)
set_option maxRecDepth 100000 in
set_option maxHeartbeats 4000000 in
theorem s_X12_take_b0 {X : MC} (C : Cx X cX12_take RX12 wsX12_take 1 rmX12_take none) {rec0 : St → Option (Unit × St)} (hrec0 : ∀ (s : St) (r : Unit × St), rec0 s = some r → G X (QM mkV X r) s 0 [(0, .ref (ad X 12))] []) (S : St) {r0 : Unit × St} (h : f_X12_take_b0 rec0 S = some r0) : G X (QM mkV X r0) S 0 [(0, .ref (ad X 12))] [] := by
  unfold f_X12_take_b0 at h
  refine g_aload_n (pc := 0) C dX12_take_0 rfl 0 rfl ?_
  refine g_aload_n (pc := 1) C dX12_take_1 rfl 0 rfl ?_
  refine g_get (pc := 2) C 12 (w_12 _ _) rfl 26 (Nat.le_of_ble_eq_true rfl) in_X12_X12_take k135_X12_take rfl dX12_take_2 ?_
  refine g_callV (pc := 5) C 12 (c_X12_at (Xl X) (Xb X) (gI S 32) S) gX12_take_X12_at rfl rfl rfl hd_X12_at ⟨Nat.le_of_ble_eq_true rfl, Nat.le_of_ble_eq_true rfl⟩ (w_12 _ _) rfl rfl rfl (Nat.le_of_ble_eq_true rfl) dX12_take_5 h (fun r2 S1 h => ?_)
  change G X _ S1 8 [(0, .ref (ad X 12))] [.int r2]
  refine g_bipush (pc := 8) (v := 32) C dX12_take_8 (by decide) ?_
  refine g_icmp_eq (pc := 10) (tgt := 26) C h dX12_take_10 (by decide) (fun h => ?_) (fun h => ?_)
  · refine g_weak (lv1 := [(0, .ref (ad X 12))]) [0] rfl ?_
    exact s_X12_take_b26 C  hrec0  S1 h
  · refine g_aload_n (pc := 13) C dX12_take_13 rfl 0 rfl ?_
    refine g_aload_n (pc := 14) C dX12_take_14 rfl 0 rfl ?_
    refine g_get (pc := 15) C 12 (w_12 _ _) rfl 26 (Nat.le_of_ble_eq_true rfl) in_X12_X12_take k135_X12_take rfl dX12_take_15 ?_
    refine g_callV (pc := 18) C 12 (c_X12_at (Xl X) (Xb X) (gI S1 32) S1) gX12_take_X12_at rfl rfl rfl hd_X12_at ⟨Nat.le_of_ble_eq_true rfl, Nat.le_of_ble_eq_true rfl⟩ (w_12 _ _) rfl rfl rfl (Nat.le_of_ble_eq_true rfl) dX12_take_18 h (fun r5 S4 h => ?_)
    change G X _ S4 21 [(0, .ref (ad X 12))] [.int r5]
    refine g_bipush (pc := 21) (v := 10) C dX12_take_21 (by decide) ?_
    refine g_icmp_ne (pc := 23) (tgt := 39) C h dX12_take_23 (by decide) (fun h => ?_) (fun h => ?_)
    · refine g_aload_n (pc := 39) C dX12_take_39 rfl 0 rfl ?_
      refine g_aload_n (pc := 40) C dX12_take_40 rfl 0 rfl ?_
      refine g_get (pc := 41) C 12 (w_12 _ _) rfl 26 (Nat.le_of_ble_eq_true rfl) in_X12_X12_take k135_X12_take rfl dX12_take_41 ?_
      refine g_put (pc := 44) C 12 (w_12 _ _) rfl 25 (Nat.le_of_ble_eq_true rfl) in_X12_X12_take tyX12_ok nmX12 k141_X12_take rfl rfl rfl (Nat.le_of_ble_eq_true rfl) (ws_12_25 _ _ _) dX12_take_44 h (fun S6 h => ?_)
      refine g_aload_n (pc := 47) C dX12_take_47 rfl 0 rfl ?_
      refine g_lconst (pc := 48) (v := 0) C dX12_take_48 (by decide) ?_
      refine g_put (pc := 49) C 12 (w_12 _ _) rfl 27 (Nat.le_of_ble_eq_true rfl) in_X12_X12_take tyX12_ok nmX12 k144_X12_take rfl rfl rfl (Nat.le_of_ble_eq_true rfl) (ws_12_27 _ _ _) dX12_take_49 h (fun S7 h => ?_)
      refine g_aload_n (pc := 52) C dX12_take_52 rfl 0 rfl ?_
      refine g_aload_n (pc := 53) C dX12_take_53 rfl 0 rfl ?_
      refine g_get (pc := 54) C 12 (w_12 _ _) rfl 26 (Nat.le_of_ble_eq_true rfl) in_X12_X12_take k135_X12_take rfl dX12_take_54 ?_
      refine g_callV (pc := 57) C 12 (c_X12_at (Xl X) (Xb X) (gI S7 32) S7) gX12_take_X12_at rfl rfl rfl hd_X12_at ⟨Nat.le_of_ble_eq_true rfl, Nat.le_of_ble_eq_true rfl⟩ (w_12 _ _) rfl rfl rfl (Nat.le_of_ble_eq_true rfl) dX12_take_57 h (fun r9 S8 h => ?_)
      change G X _ S8 60 [(0, .ref (ad X 12))] [.int r9]
      refine g_i2l (pc := 60) C dX12_take_60 ?_
      refine g_ldc2 (pc := 61) (v := 97) C k147_X12_take dX12_take_61 ?_
      refine g_ldc2 (pc := 64) (v := 122) C k149_X12_take dX12_take_64 ?_
      refine g_callS (pc := 67) C (c_X12_in (Xl X) (Xb X) (Int32.toInt64 r9) 97 122 S8) gX12_take_X12_in rfl rfl rfl hd_X12_in ⟨Nat.le_of_ble_eq_true rfl, Nat.le_of_ble_eq_true rfl⟩ rfl rfl (Nat.le_of_ble_eq_true rfl) dX12_take_67 h (fun r11 S10 h => ?_)
      change G X _ S10 70 [(0, .ref (ad X 12))] [.int r11]
      refine g_if_eq (pc := 70) (tgt := 158) C h dX12_take_70 (by decide) (fun h => ?_) (fun h => ?_)
      · refine g_aload_n (pc := 158) C dX12_take_158 rfl 0 rfl ?_
        refine g_aload_n (pc := 159) C dX12_take_159 rfl 0 rfl ?_
        refine g_get (pc := 160) C 12 (w_12 _ _) rfl 26 (Nat.le_of_ble_eq_true rfl) in_X12_X12_take k135_X12_take rfl dX12_take_160 ?_
        refine g_callV (pc := 163) C 12 (c_X12_at (Xl X) (Xb X) (gI S10 32) S10) gX12_take_X12_at rfl rfl rfl hd_X12_at ⟨Nat.le_of_ble_eq_true rfl, Nat.le_of_ble_eq_true rfl⟩ (w_12 _ _) rfl rfl rfl (Nat.le_of_ble_eq_true rfl) dX12_take_163 h (fun r13 S12 h => ?_)
        change G X _ S12 166 [(0, .ref (ad X 12))] [.int r13]
        refine g_i2l (pc := 166) C dX12_take_166 ?_
        refine g_ldc2 (pc := 167) (v := 48) C k160_X12_take dX12_take_167 ?_
        refine g_ldc2 (pc := 170) (v := 57) C k162_X12_take dX12_take_170 ?_
        refine g_callS (pc := 173) C (c_X12_in (Xl X) (Xb X) (Int32.toInt64 r13) 48 57 S12) gX12_take_X12_in rfl rfl rfl hd_X12_in ⟨Nat.le_of_ble_eq_true rfl, Nat.le_of_ble_eq_true rfl⟩ rfl rfl (Nat.le_of_ble_eq_true rfl) dX12_take_173 h (fun r15 S14 h => ?_)
        change G X _ S14 176 [(0, .ref (ad X 12))] [.int r15]
        refine g_if_eq (pc := 176) (tgt := 262) C h dX12_take_176 (by decide) (fun h => ?_) (fun h => ?_)
        · refine g_aload_n (pc := 262) C dX12_take_262 rfl 0 rfl ?_
          refine g_aload_n (pc := 263) C dX12_take_263 rfl 0 rfl ?_
          refine g_aload_n (pc := 264) C dX12_take_264 rfl 0 rfl ?_
          refine g_get (pc := 265) C 12 (w_12 _ _) rfl 26 (Nat.le_of_ble_eq_true rfl) in_X12_X12_take k135_X12_take rfl dX12_take_265 ?_
          refine g_callV (pc := 268) C 12 (c_X12_at (Xl X) (Xb X) (gI S14 32) S14) gX12_take_X12_at rfl rfl rfl hd_X12_at ⟨Nat.le_of_ble_eq_true rfl, Nat.le_of_ble_eq_true rfl⟩ (w_12 _ _) rfl rfl rfl (Nat.le_of_ble_eq_true rfl) dX12_take_268 h (fun r17 S16 h => ?_)
          change G X _ S16 271 [(0, .ref (ad X 12))] [.int r17, .ref (ad X 12)]
          refine g_iconst (pc := 271) (v := (-1)) C dX12_take_271 (by decide) ?_
          refine g_icmp_ne (pc := 272) (tgt := 279) C h dX12_take_272 (by decide) (fun h => ?_) (fun h => ?_)
          · refine g_aload_n (pc := 279) C dX12_take_279 rfl 0 rfl ?_
            refine g_aload_n (pc := 280) C dX12_take_280 rfl 0 rfl ?_
            refine g_get (pc := 281) C 12 (w_12 _ _) rfl 26 (Nat.le_of_ble_eq_true rfl) in_X12_X12_take k135_X12_take rfl dX12_take_281 ?_
            refine g_callV (pc := 284) C 12 (c_X12_at (Xl X) (Xb X) (gI S16 32) S16) gX12_take_X12_at rfl rfl rfl hd_X12_at ⟨Nat.le_of_ble_eq_true rfl, Nat.le_of_ble_eq_true rfl⟩ (w_12 _ _) rfl rfl rfl (Nat.le_of_ble_eq_true rfl) dX12_take_284 h (fun r19 S18 h => ?_)
            change G X _ S18 287 [(0, .ref (ad X 12))] [.int r19, .ref (ad X 12)]
            refine g_bipush (pc := 287) (v := 59) C dX12_take_287 (by decide) ?_
            refine g_icmp_ne (pc := 289) (tgt := 296) C h dX12_take_289 (by decide) (fun h => ?_) (fun h => ?_)
            · refine g_iconst (pc := 296) (v := 4) C dX12_take_296 (by decide) ?_
              refine g_weak (lv1 := [(0, .ref (ad X 12))]) [0] rfl ?_
              exact s_X12_take_b297 C 4  S18 h
            · refine g_iconst (pc := 292) (v := 3) C dX12_take_292 (by decide) ?_
              refine g_goto (pc := 293) (tgt := 297) C dX12_take_293 (by decide) ?_
              refine g_weak (lv1 := [(0, .ref (ad X 12))]) [0] rfl ?_
              exact s_X12_take_b297 C 3  S18 h
          · refine g_iconst (pc := 275) (v := 0) C dX12_take_275 (by decide) ?_
            refine g_goto (pc := 276) (tgt := 297) C dX12_take_276 (by decide) ?_
            refine g_weak (lv1 := [(0, .ref (ad X 12))]) [0] rfl ?_
            exact s_X12_take_b297 C 0  S16 h
        · refine g_aload_n (pc := 179) C dX12_take_179 rfl 0 rfl ?_
          refine g_iconst (pc := 180) (v := 2) C dX12_take_180 (by decide) ?_
          refine g_put (pc := 181) C 12 (w_12 _ _) rfl 24 (Nat.le_of_ble_eq_true rfl) in_X12_X12_take tyX12_ok nmX12 k151_X12_take rfl rfl rfl (Nat.le_of_ble_eq_true rfl) (ws_12_24 _ _ _) dX12_take_181 h (fun S22 h => ?_)
          refine g_weak (lv1 := [(0, .ref (ad X 12))]) [0] rfl ?_
          exact s_X12_take_l184 C  _ S22 _ h
      · refine g_aload_n (pc := 73) C dX12_take_73 rfl 0 rfl ?_
        refine g_iconst (pc := 74) (v := 1) C dX12_take_74 (by decide) ?_
        refine g_put (pc := 75) C 12 (w_12 _ _) rfl 24 (Nat.le_of_ble_eq_true rfl) in_X12_X12_take tyX12_ok nmX12 k151_X12_take rfl rfl rfl (Nat.le_of_ble_eq_true rfl) (ws_12_24 _ _ _) dX12_take_75 h (fun S31 h => ?_)
        refine g_weak (lv1 := [(0, .ref (ad X 12))]) [0] rfl ?_
        exact s_X12_take_l78 C  _ S31 _ h
    · refine g_weak (lv1 := [(0, .ref (ad X 12))]) [0] rfl ?_
      exact s_X12_take_b26 C  hrec0  S4 h
set_option maxRecDepth 100000 in
set_option maxHeartbeats 4000000 in
theorem s_X12_take_l0 {X : MC} (C : Cx X cX12_take RX12 wsX12_take 1 rmX12_take none) : ∀ (n : Nat) (s : St) (r : Unit × St), f_X12_take_l0 n s = some r → G X (QM mkV X r) s 0 [(0, .ref (ad X 12))] [] :=
  loop_sound (fun rec0 hrec0 s r h => s_X12_take_b0 C  hrec0 s h)
theorem c_X12_take (l : Launch) (b : Bw) (S : St) : Ct l b yX12_take wsX12_take rmX12_take [.ref (bad b 12)] S mkV (f_X12_take S) := Ct.of (by decide +kernel) rfl (Nat.le_of_ble_eq_true rfl) (fun X C hl hb r h => by
  subst hl; subst hb
  refine g_weak (lv1 := [(0, .ref (ad X 12))]) [0] rfl ?_
  exact s_X12_take_l0 C  _ S _ h)
/-! StyleRowsModel.word(IIIIII)J -/
set_option maxRecDepth 100000 in
set_option maxHeartbeats 4000000 in
theorem s_X12_word_b95 {X : MC} (C : Cx X cX12_word RX12 wsX12_word 8 rmX12_word (some .long)) (w0 : Int64) (S : St) {r0 : Int64 × St} (h : f_X12_word_b95 w0 S = some r0) : G X (QM mkL X r0) S 95 [] [.long w0] := by
  unfold f_X12_word_b95 at h
  exact g_lret (pc := 95) C h dX12_word_95
set_option maxRecDepth 100000 in
set_option maxHeartbeats 4000000 in
theorem s_X12_word_b69 {X : MC} (C : Cx X cX12_word RX12 wsX12_word 8 rmX12_word (some .long)) (v5 : Int32) (w0 : Int64) (S : St) {r0 : Int64 × St} (h : f_X12_word_b69 v5 w0 S = some r0) : G X (QM mkL X r0) S 69 [(5, .int v5)] [.long w0] := by
  unfold f_X12_word_b69 at h
  refine g_lstore (pc := 69) C [(6, .long w0), (5, .int v5)] dX12_word_69 (Nat.le_of_ble_eq_true rfl) rfl ?_
  refine g_iload (pc := 71) C dX12_word_71 1 rfl ?_
  refine g_if_le (pc := 73) (tgt := 93) C h dX12_word_73 (by decide) (fun h => ?_) (fun h => ?_)
  · refine g_lload (pc := 93) C dX12_word_93 0 rfl ?_
    refine g_weak (lv1 := []) [] rfl ?_
    exact s_X12_word_b95 C w0  S h
  · refine g_lload (pc := 76) C dX12_word_76 0 rfl ?_
    refine g_ldc2 (pc := 78) (v := 32) C k154_X12_word dX12_word_78 ?_
    refine g_lmul (pc := 81) C dX12_word_81 ?_
    refine g_iload (pc := 82) C dX12_word_82 1 rfl ?_
    refine g_i2l (pc := 84) C dX12_word_84 ?_
    refine g_ladd (pc := 85) C dX12_word_85 ?_
    refine g_ldc2 (pc := 86) (v := 96) C k156_X12_word dX12_word_86 ?_
    refine g_lsub (pc := 89) C dX12_word_89 ?_
    refine g_goto (pc := 90) (tgt := 95) C dX12_word_90 (by decide) ?_
    refine g_weak (lv1 := []) [] rfl ?_
    exact s_X12_word_b95 C (((w0 * 32) + (Int32.toInt64 v5)) - 96)  S h
set_option maxRecDepth 100000 in
set_option maxHeartbeats 4000000 in
theorem s_X12_word_b0 {X : MC} (C : Cx X cX12_word RX12 wsX12_word 8 rmX12_word (some .long)) (a1 : Int32) (a2 : Int32) (a3 : Int32) (a4 : Int32) (a5 : Int32) (a6 : Int32) (S : St) {r0 : Int64 × St} (h : f_X12_word_b0 a1 a2 a3 a4 a5 a6 S = some r0) : G X (QM mkL X r0) S 0 [(0, .int a1), (1, .int a2), (2, .int a3), (3, .int a4), (4, .int a5), (5, .int a6)] [] := by
  unfold f_X12_word_b0 at h
  refine g_iload_n (pc := 0) C dX12_word_0 rfl 0 rfl ?_
  refine g_i2l (pc := 1) C dX12_word_1 ?_
  refine g_ldc2 (pc := 2) (v := 96) C k156_X12_word dX12_word_2 ?_
  refine g_lsub (pc := 5) C dX12_word_5 ?_
  refine g_ldc2 (pc := 6) (v := 32) C k154_X12_word dX12_word_6 ?_
  refine g_lmul (pc := 9) C dX12_word_9 ?_
  refine g_iload_n (pc := 10) C dX12_word_10 rfl 1 rfl ?_
  refine g_i2l (pc := 11) C dX12_word_11 ?_
  refine g_ladd (pc := 12) C dX12_word_12 ?_
  refine g_ldc2 (pc := 13) (v := 96) C k156_X12_word dX12_word_13 ?_
  refine g_lsub (pc := 16) C dX12_word_16 ?_
  refine g_ldc2 (pc := 17) (v := 32) C k154_X12_word dX12_word_17 ?_
  refine g_lmul (pc := 20) C dX12_word_20 ?_
  refine g_iload_n (pc := 21) C dX12_word_21 rfl 2 rfl ?_
  refine g_i2l (pc := 22) C dX12_word_22 ?_
  refine g_ladd (pc := 23) C dX12_word_23 ?_
  refine g_ldc2 (pc := 24) (v := 96) C k156_X12_word dX12_word_24 ?_
  refine g_lsub (pc := 27) C dX12_word_27 ?_
  refine g_letl h (fun y1 h => ?_)
  refine g_lstore (pc := 28) C [(6, .long y1), (0, .int a1), (1, .int a2), (2, .int a3), (3, .int a4), (4, .int a5), (5, .int a6)] dX12_word_28 (Nat.le_of_ble_eq_true rfl) rfl ?_
  refine g_lload (pc := 30) C dX12_word_30 0 rfl ?_
  refine g_ldc2 (pc := 32) (v := 32) C k154_X12_word dX12_word_32 ?_
  refine g_lmul (pc := 35) C dX12_word_35 ?_
  refine g_iload_n (pc := 36) C dX12_word_36 rfl 4 rfl ?_
  refine g_i2l (pc := 37) C dX12_word_37 ?_
  refine g_ladd (pc := 38) C dX12_word_38 ?_
  refine g_ldc2 (pc := 39) (v := 96) C k156_X12_word dX12_word_39 ?_
  refine g_lsub (pc := 42) C dX12_word_42 ?_
  refine g_letl h (fun y2 h => ?_)
  refine g_lstore (pc := 43) C [(6, .long y2), (0, .int a1), (1, .int a2), (2, .int a3), (3, .int a4), (4, .int a5), (5, .int a6)] dX12_word_43 (Nat.le_of_ble_eq_true rfl) rfl ?_
  refine g_iload (pc := 45) C dX12_word_45 5 rfl ?_
  refine g_if_le (pc := 47) (tgt := 67) C h dX12_word_47 (by decide) (fun h => ?_) (fun h => ?_)
  · refine g_lload (pc := 67) C dX12_word_67 0 rfl ?_
    refine g_weak (lv1 := [(5, .int a6)]) [6] rfl ?_
    exact s_X12_word_b69 C a6 y2  S h
  · refine g_lload (pc := 50) C dX12_word_50 0 rfl ?_
    refine g_ldc2 (pc := 52) (v := 32) C k154_X12_word dX12_word_52 ?_
    refine g_lmul (pc := 55) C dX12_word_55 ?_
    refine g_iload (pc := 56) C dX12_word_56 5 rfl ?_
    refine g_i2l (pc := 58) C dX12_word_58 ?_
    refine g_ladd (pc := 59) C dX12_word_59 ?_
    refine g_ldc2 (pc := 60) (v := 96) C k156_X12_word dX12_word_60 ?_
    refine g_lsub (pc := 63) C dX12_word_63 ?_
    refine g_goto (pc := 64) (tgt := 69) C dX12_word_64 (by decide) ?_
    refine g_weak (lv1 := [(5, .int a6)]) [6] rfl ?_
    exact s_X12_word_b69 C a6 (((y2 * 32) + (Int32.toInt64 a5)) - 96)  S h
theorem c_X12_word (l : Launch) (b : Bw) (a1 : Int32) (a2 : Int32) (a3 : Int32) (a4 : Int32) (a5 : Int32) (a6 : Int32) (S : St) : Ct l b yX12_word wsX12_word rmX12_word [.int a1, .int a2, .int a3, .int a4, .int a5, .int a6] S mkL (f_X12_word a1 a2 a3 a4 a5 a6 S) := Ct.of (by decide +kernel) rfl (Nat.le_of_ble_eq_true rfl) (fun X C hl hb r h => by
  subst hl; subst hb
  exact s_X12_word_b0 C a1 a2 a3 a4 a5 a6 S h)
/-! StyleRowsModel.lowest(I)I -/
set_option maxRecDepth 100000 in
set_option maxHeartbeats 4000000 in
theorem s_X12_lowest_b22 {X : MC} (C : Cx X cX12_lowest RX12 wsX12_lowest 1 rmX12_lowest (some .int)) (w0 : Int32) (S : St) {r0 : Int32 × St} (h : f_X12_lowest_b22 w0 S = some r0) : G X (QM mkI X r0) S 22 [] [.int w0] := by
  unfold f_X12_lowest_b22 at h
  exact g_iret (pc := 22) C h dX12_lowest_22
set_option maxRecDepth 100000 in
set_option maxHeartbeats 4000000 in
theorem s_X12_lowest_b17 {X : MC} (C : Cx X cX12_lowest RX12 wsX12_lowest 1 rmX12_lowest (some .int)) (S : St) {r0 : Int32 × St} (h : f_X12_lowest_b17 S = some r0) : G X (QM mkI X r0) S 17 [] [] := by
  unfold f_X12_lowest_b17 at h
  refine g_iconst (pc := 17) (v := 1) C dX12_lowest_17 (by decide) ?_
  refine g_goto (pc := 18) (tgt := 22) C dX12_lowest_18 (by decide) ?_
  refine g_weak (lv1 := []) [] rfl ?_
  exact s_X12_lowest_b22 C 1  S h
set_option maxRecDepth 100000 in
set_option maxHeartbeats 4000000 in
theorem s_X12_lowest_b0 {X : MC} (C : Cx X cX12_lowest RX12 wsX12_lowest 1 rmX12_lowest (some .int)) (a1 : Int32) (S : St) {r0 : Int32 × St} (h : f_X12_lowest_b0 a1 S = some r0) : G X (QM mkI X r0) S 0 [(0, .int a1)] [] := by
  unfold f_X12_lowest_b0 at h
  refine g_iload_n (pc := 0) C dX12_lowest_0 rfl 0 rfl ?_
  refine g_iconst (pc := 1) (v := 3) C dX12_lowest_1 (by decide) ?_
  refine g_icmp_le (pc := 2) (tgt := 17) C h dX12_lowest_2 (by decide) (fun h => ?_) (fun h => ?_)
  · refine g_weak (lv1 := []) [] rfl ?_
    exact s_X12_lowest_b17 C   S h
  · refine g_iload_n (pc := 5) C dX12_lowest_5 rfl 0 rfl ?_
    refine g_bipush (pc := 6) (v := 7) C dX12_lowest_6 (by decide) ?_
    refine g_icmp_eq (pc := 8) (tgt := 17) C h dX12_lowest_8 (by decide) (fun h => ?_) (fun h => ?_)
    · refine g_weak (lv1 := []) [] rfl ?_
      exact s_X12_lowest_b17 C   S h
    · refine g_iload_n (pc := 11) C dX12_lowest_11 rfl 0 rfl ?_
      refine g_bipush (pc := 12) (v := 9) C dX12_lowest_12 (by decide) ?_
      refine g_icmp_ne (pc := 14) (tgt := 21) C h dX12_lowest_14 (by decide) (fun h => ?_) (fun h => ?_)
      · refine g_iconst (pc := 21) (v := 0) C dX12_lowest_21 (by decide) ?_
        refine g_weak (lv1 := []) [] rfl ?_
        exact s_X12_lowest_b22 C 0  S h
      · refine g_weak (lv1 := []) [] rfl ?_
        exact s_X12_lowest_b17 C   S h
theorem c_X12_lowest (l : Launch) (b : Bw) (a1 : Int32) (S : St) : Ct l b yX12_lowest wsX12_lowest rmX12_lowest [.int a1] S mkI (f_X12_lowest a1 S) := Ct.of (by decide +kernel) rfl (Nat.le_of_ble_eq_true rfl) (fun X C hl hb r h => by
  subst hl; subst hb
  exact s_X12_lowest_b0 C a1 S h)
/-! StyleRowsModel.highest(I)I -/
set_option maxRecDepth 100000 in
set_option maxHeartbeats 4000000 in
theorem s_X12_highest_b50 {X : MC} (C : Cx X cX12_highest RX12 wsX12_highest 1 rmX12_highest (some .int)) (w0 : Int32) (S : St) {r0 : Int32 × St} (h : f_X12_highest_b50 w0 S = some r0) : G X (QM mkI X r0) S 50 [] [.int w0] := by
  unfold f_X12_highest_b50 at h
  exact g_iret (pc := 50) C h dX12_highest_50
set_option maxRecDepth 100000 in
set_option maxHeartbeats 4000000 in
theorem s_X12_highest_b26 {X : MC} (C : Cx X cX12_highest RX12 wsX12_highest 1 rmX12_highest (some .int)) (v0 : Int32) (S : St) {r0 : Int32 × St} (h : f_X12_highest_b26 v0 S = some r0) : G X (QM mkI X r0) S 26 [(0, .int v0)] [] := by
  unfold f_X12_highest_b26 at h
  refine g_iload_n (pc := 26) C dX12_highest_26 rfl 0 rfl ?_
  refine g_bipush (pc := 27) (v := 8) C dX12_highest_27 (by decide) ?_
  refine g_icmp_ne (pc := 29) (tgt := 36) C h dX12_highest_29 (by decide) (fun h => ?_) (fun h => ?_)
  · refine g_iload_n (pc := 36) C dX12_highest_36 rfl 0 rfl ?_
    refine g_bipush (pc := 37) (v := 12) C dX12_highest_37 (by decide) ?_
    refine g_icmp_ne (pc := 39) (tgt := 47) C h dX12_highest_39 (by decide) (fun h => ?_) (fun h => ?_)
    · refine g_sipush (pc := 47) (v := 960) C dX12_highest_47 (by decide) ?_
      refine g_weak (lv1 := []) [] rfl ?_
      exact s_X12_highest_b50 C 960  S h
    · refine g_bipush (pc := 42) (v := 99) C dX12_highest_42 (by decide) ?_
      refine g_goto (pc := 44) (tgt := 50) C dX12_highest_44 (by decide) ?_
      refine g_weak (lv1 := []) [] rfl ?_
      exact s_X12_highest_b50 C 99  S h
  · refine g_iconst (pc := 32) (v := 1) C dX12_highest_32 (by decide) ?_
    refine g_goto (pc := 33) (tgt := 50) C dX12_highest_33 (by decide) ?_
    refine g_weak (lv1 := []) [] rfl ?_
    exact s_X12_highest_b50 C 1  S h
set_option maxRecDepth 100000 in
set_option maxHeartbeats 4000000 in
theorem s_X12_highest_b0 {X : MC} (C : Cx X cX12_highest RX12 wsX12_highest 1 rmX12_highest (some .int)) (a1 : Int32) (S : St) {r0 : Int32 × St} (h : f_X12_highest_b0 a1 S = some r0) : G X (QM mkI X r0) S 0 [(0, .int a1)] [] := by
  unfold f_X12_highest_b0 at h
  refine g_iload_n (pc := 0) C dX12_highest_0 rfl 0 rfl ?_
  refine g_iconst (pc := 1) (v := 2) C dX12_highest_1 (by decide) ?_
  refine g_icmp_gt (pc := 2) (tgt := 10) C h dX12_highest_2 (by decide) (fun h => ?_) (fun h => ?_)
  · refine g_iload_n (pc := 10) C dX12_highest_10 rfl 0 rfl ?_
    refine g_iconst (pc := 11) (v := 4) C dX12_highest_11 (by decide) ?_
    refine g_icmp_lt (pc := 12) (tgt := 26) C h dX12_highest_12 (by decide) (fun h => ?_) (fun h => ?_)
    · refine g_weak (lv1 := [(0, .int a1)]) [0] rfl ?_
      exact s_X12_highest_b26 C a1  S h
    · refine g_iload_n (pc := 15) C dX12_highest_15 rfl 0 rfl ?_
      refine g_bipush (pc := 16) (v := 6) C dX12_highest_16 (by decide) ?_
      refine g_icmp_gt (pc := 18) (tgt := 26) C h dX12_highest_18 (by decide) (fun h => ?_) (fun h => ?_)
      · refine g_weak (lv1 := [(0, .int a1)]) [0] rfl ?_
        exact s_X12_highest_b26 C a1  S h
      · refine g_bipush (pc := 21) (v := 127) C dX12_highest_21 (by decide) ?_
        refine g_goto (pc := 23) (tgt := 50) C dX12_highest_23 (by decide) ?_
        refine g_weak (lv1 := []) [] rfl ?_
        exact s_X12_highest_b50 C 127  S h
  · refine g_bipush (pc := 5) (v := 100) C dX12_highest_5 (by decide) ?_
    refine g_goto (pc := 7) (tgt := 50) C dX12_highest_7 (by decide) ?_
    refine g_weak (lv1 := []) [] rfl ?_
    exact s_X12_highest_b50 C 100  S h
theorem c_X12_highest (l : Launch) (b : Bw) (a1 : Int32) (S : St) : Ct l b yX12_highest wsX12_highest rmX12_highest [.int a1] S mkI (f_X12_highest a1 S) := Ct.of (by decide +kernel) rfl (Nat.le_of_ble_eq_true rfl) (fun X C hl hb r h => by
  subst hl; subst hb
  exact s_X12_highest_b0 C a1 S h)
/-! StyleRowsModel.isNumber(II)Z -/
set_option maxRecDepth 100000 in
set_option maxHeartbeats 4000000 in
theorem s_X12_isNumber_b27 {X : MC} (C : Cx X cX12_isNumber RX12 wsX12_isNumber 3 rmX12_isNumber (some .boolean)) (w0 : Int32) (S : St) {r0 : Int32 × St} (h : f_X12_isNumber_b27 w0 S = some r0) : G X (QM mkI X r0) S 27 [] [.int w0] := by
  unfold f_X12_isNumber_b27 at h
  exact g_zret (pc := 27) C h dX12_isNumber_27
set_option maxRecDepth 100000 in
set_option maxHeartbeats 4000000 in
theorem s_X12_isNumber_b26 {X : MC} (C : Cx X cX12_isNumber RX12 wsX12_isNumber 3 rmX12_isNumber (some .boolean)) (S : St) {r0 : Int32 × St} (h : f_X12_isNumber_b26 S = some r0) : G X (QM mkI X r0) S 26 [] [] := by
  unfold f_X12_isNumber_b26 at h
  refine g_iconst (pc := 26) (v := 0) C dX12_isNumber_26 (by decide) ?_
  refine g_weak (lv1 := []) [] rfl ?_
  exact s_X12_isNumber_b27 C 0  S h
set_option maxRecDepth 100000 in
set_option maxHeartbeats 4000000 in
theorem s_X12_isNumber_b0 {X : MC} (C : Cx X cX12_isNumber RX12 wsX12_isNumber 3 rmX12_isNumber (some .boolean)) (a1 : Int32) (a2 : Int32) (S : St) {r0 : Int32 × St} (h : f_X12_isNumber_b0 a1 a2 S = some r0) : G X (QM mkI X r0) S 0 [(0, .ref (ad X 12)), (1, .int a1), (2, .int a2)] [] := by
  unfold f_X12_isNumber_b0 at h
  refine g_aload_n (pc := 0) C dX12_isNumber_0 rfl 0 rfl ?_
  refine g_get (pc := 1) C 12 (w_12 _ _) rfl 24 (Nat.le_of_ble_eq_true rfl) in_X12_X12_isNumber k151_X12_isNumber rfl dX12_isNumber_1 ?_
  refine g_iconst (pc := 4) (v := 2) C dX12_isNumber_4 (by decide) ?_
  refine g_icmp_ne (pc := 5) (tgt := 26) C h dX12_isNumber_5 (by decide) (fun h => ?_) (fun h => ?_)
  · refine g_weak (lv1 := []) [] rfl ?_
    exact s_X12_isNumber_b26 C   S h
  · refine g_aload_n (pc := 8) C dX12_isNumber_8 rfl 0 rfl ?_
    refine g_get (pc := 9) C 12 (w_12 _ _) rfl 27 (Nat.le_of_ble_eq_true rfl) in_X12_X12_isNumber k144_X12_isNumber rfl dX12_isNumber_9 ?_
    refine g_iload_n (pc := 12) C dX12_isNumber_12 rfl 1 rfl ?_
    refine g_i2l (pc := 13) C dX12_isNumber_13 ?_
    refine g_iload_n (pc := 14) C dX12_isNumber_14 rfl 2 rfl ?_
    refine g_i2l (pc := 15) C dX12_isNumber_15 ?_
    refine g_callS (pc := 16) C (c_X12_in (Xl X) (Xb X) (gJ S 2) (Int32.toInt64 a1) (Int32.toInt64 a2) S) gX12_isNumber_X12_in rfl rfl rfl hd_X12_in ⟨Nat.le_of_ble_eq_true rfl, Nat.le_of_ble_eq_true rfl⟩ rfl rfl (Nat.le_of_ble_eq_true rfl) dX12_isNumber_16 h (fun r2 S1 h => ?_)
    change G X _ S1 19 [(0, .ref (ad X 12)), (1, .int a1), (2, .int a2)] [.int r2]
    refine g_if_eq (pc := 19) (tgt := 26) C h dX12_isNumber_19 (by decide) (fun h => ?_) (fun h => ?_)
    · refine g_weak (lv1 := []) [] rfl ?_
      exact s_X12_isNumber_b26 C   S1 h
    · refine g_iconst (pc := 22) (v := 1) C dX12_isNumber_22 (by decide) ?_
      refine g_goto (pc := 23) (tgt := 27) C dX12_isNumber_23 (by decide) ?_
      refine g_weak (lv1 := []) [] rfl ?_
      exact s_X12_isNumber_b27 C 1  S1 h
theorem c_X12_isNumber (l : Launch) (b : Bw) (a1 : Int32) (a2 : Int32) (S : St) : Ct l b yX12_isNumber wsX12_isNumber rmX12_isNumber [.ref (bad b 12), .int a1, .int a2] S mkI (f_X12_isNumber a1 a2 S) := Ct.of (by decide +kernel) rfl (Nat.le_of_ble_eq_true rfl) (fun X C hl hb r h => by
  subst hl; subst hb
  exact s_X12_isNumber_b0 C a1 a2 S h)
/-! StyleRowsModel.wordOf(I)J -/
set_option maxRecDepth 100000 in
set_option maxHeartbeats 4000000 in
theorem s_X12_wordOf_b0 {X : MC} (C : Cx X cX12_wordOf RX12 wsX12_wordOf 1 rmX12_wordOf (some .long)) (a1 : Int32) (S : St) {r0 : Int64 × St} (h : f_X12_wordOf_b0 a1 S = some r0) : G X (QM mkL X r0) S 0 [(0, .int a1)] [] := by
  unfold f_X12_wordOf_b0 at h
  refine g_iload_n (pc := 0) C dX12_wordOf_0 rfl 0 rfl ?_
  by_cases hq1 : a1 = 0
  · replace h := ite_t h hq1
    refine g_swIn (pc := 1) (tgt := 64) C 0 hq1 dX12_wordOf_1 (by decide) (by decide) rfl (by decide) ?_
    refine g_bipush (pc := 64) (v := 115) C dX12_wordOf_64 (by decide) ?_
    refine g_bipush (pc := 66) (v := 104) C dX12_wordOf_66 (by decide) ?_
    refine g_bipush (pc := 68) (v := 111) C dX12_wordOf_68 (by decide) ?_
    refine g_bipush (pc := 70) (v := 114) C dX12_wordOf_70 (by decide) ?_
    refine g_bipush (pc := 72) (v := 116) C dX12_wordOf_72 (by decide) ?_
    refine g_iconst (pc := 74) (v := 0) C dX12_wordOf_74 (by decide) ?_
    refine g_callS (pc := 75) C (c_X12_word (Xl X) (Xb X) 115 104 111 114 116 0 S) gX12_wordOf_X12_word rfl rfl rfl hd_X12_word ⟨Nat.le_of_ble_eq_true rfl, Nat.le_of_ble_eq_true rfl⟩ rfl rfl (Nat.le_of_ble_eq_true rfl) dX12_wordOf_75 h (fun r3 S2 h => ?_)
    change G X _ S2 78 [(0, .int a1)] [.long r3]
    exact g_lret (pc := 78) C h dX12_wordOf_78
  replace h := ite_f h hq1
  by_cases hq4 : a1 = 1
  · replace h := ite_t h hq4
    refine g_swIn (pc := 1) (tgt := 79) C 1 hq4 dX12_wordOf_1 (by decide) (by decide) rfl (by decide) ?_
    refine g_bipush (pc := 79) (v := 112) C dX12_wordOf_79 (by decide) ?_
    refine g_bipush (pc := 81) (v := 108) C dX12_wordOf_81 (by decide) ?_
    refine g_bipush (pc := 83) (v := 97) C dX12_wordOf_83 (by decide) ?_
    refine g_bipush (pc := 85) (v := 105) C dX12_wordOf_85 (by decide) ?_
    refine g_bipush (pc := 87) (v := 110) C dX12_wordOf_87 (by decide) ?_
    refine g_iconst (pc := 89) (v := 0) C dX12_wordOf_89 (by decide) ?_
    refine g_callS (pc := 90) C (c_X12_word (Xl X) (Xb X) 112 108 97 105 110 0 S) gX12_wordOf_X12_word rfl rfl rfl hd_X12_word ⟨Nat.le_of_ble_eq_true rfl, Nat.le_of_ble_eq_true rfl⟩ rfl rfl (Nat.le_of_ble_eq_true rfl) dX12_wordOf_90 h (fun r6 S5 h => ?_)
    change G X _ S5 93 [(0, .int a1)] [.long r6]
    exact g_lret (pc := 93) C h dX12_wordOf_93
  replace h := ite_f h hq4
  by_cases hq7 : a1 = 2
  · replace h := ite_t h hq7
    refine g_swIn (pc := 1) (tgt := 94) C 2 hq7 dX12_wordOf_1 (by decide) (by decide) rfl (by decide) ?_
    refine g_bipush (pc := 94) (v := 104) C dX12_wordOf_94 (by decide) ?_
    refine g_bipush (pc := 96) (v := 101) C dX12_wordOf_96 (by decide) ?_
    refine g_bipush (pc := 98) (v := 108) C dX12_wordOf_98 (by decide) ?_
    refine g_bipush (pc := 100) (v := 100) C dX12_wordOf_100 (by decide) ?_
    refine g_iconst (pc := 102) (v := 0) C dX12_wordOf_102 (by decide) ?_
    refine g_iconst (pc := 103) (v := 0) C dX12_wordOf_103 (by decide) ?_
    refine g_callS (pc := 104) C (c_X12_word (Xl X) (Xb X) 104 101 108 100 0 0 S) gX12_wordOf_X12_word rfl rfl rfl hd_X12_word ⟨Nat.le_of_ble_eq_true rfl, Nat.le_of_ble_eq_true rfl⟩ rfl rfl (Nat.le_of_ble_eq_true rfl) dX12_wordOf_104 h (fun r9 S8 h => ?_)
    change G X _ S8 107 [(0, .int a1)] [.long r9]
    exact g_lret (pc := 107) C h dX12_wordOf_107
  replace h := ite_f h hq7
  by_cases hq10 : a1 = 3
  · replace h := ite_t h hq10
    refine g_swIn (pc := 1) (tgt := 108) C 3 hq10 dX12_wordOf_1 (by decide) (by decide) rfl (by decide) ?_
    refine g_bipush (pc := 108) (v := 108) C dX12_wordOf_108 (by decide) ?_
    refine g_bipush (pc := 110) (v := 101) C dX12_wordOf_110 (by decide) ?_
    refine g_bipush (pc := 112) (v := 97) C dX12_wordOf_112 (by decide) ?_
    refine g_bipush (pc := 114) (v := 115) C dX12_wordOf_114 (by decide) ?_
    refine g_bipush (pc := 116) (v := 116) C dX12_wordOf_116 (by decide) ?_
    refine g_iconst (pc := 118) (v := 0) C dX12_wordOf_118 (by decide) ?_
    refine g_callS (pc := 119) C (c_X12_word (Xl X) (Xb X) 108 101 97 115 116 0 S) gX12_wordOf_X12_word rfl rfl rfl hd_X12_word ⟨Nat.le_of_ble_eq_true rfl, Nat.le_of_ble_eq_true rfl⟩ rfl rfl (Nat.le_of_ble_eq_true rfl) dX12_wordOf_119 h (fun r12 S11 h => ?_)
    change G X _ S11 122 [(0, .int a1)] [.long r12]
    exact g_lret (pc := 122) C h dX12_wordOf_122
  replace h := ite_f h hq10
  by_cases hq13 : a1 = 4
  · replace h := ite_t h hq13
    refine g_swIn (pc := 1) (tgt := 123) C 4 hq13 dX12_wordOf_1 (by decide) (by decide) rfl (by decide) ?_
    refine g_bipush (pc := 123) (v := 97) C dX12_wordOf_123 (by decide) ?_
    refine g_bipush (pc := 125) (v := 99) C dX12_wordOf_125 (by decide) ?_
    refine g_bipush (pc := 127) (v := 99) C dX12_wordOf_127 (by decide) ?_
    refine g_bipush (pc := 129) (v := 101) C dX12_wordOf_129 (by decide) ?_
    refine g_bipush (pc := 131) (v := 110) C dX12_wordOf_131 (by decide) ?_
    refine g_bipush (pc := 133) (v := 116) C dX12_wordOf_133 (by decide) ?_
    refine g_callS (pc := 135) C (c_X12_word (Xl X) (Xb X) 97 99 99 101 110 116 S) gX12_wordOf_X12_word rfl rfl rfl hd_X12_word ⟨Nat.le_of_ble_eq_true rfl, Nat.le_of_ble_eq_true rfl⟩ rfl rfl (Nat.le_of_ble_eq_true rfl) dX12_wordOf_135 h (fun r15 S14 h => ?_)
    change G X _ S14 138 [(0, .int a1)] [.long r15]
    exact g_lret (pc := 138) C h dX12_wordOf_138
  replace h := ite_f h hq13
  by_cases hq16 : a1 = 5
  · replace h := ite_t h hq16
    refine g_swIn (pc := 1) (tgt := 139) C 5 hq16 dX12_wordOf_1 (by decide) (by decide) rfl (by decide) ?_
    refine g_bipush (pc := 139) (v := 102) C dX12_wordOf_139 (by decide) ?_
    refine g_bipush (pc := 141) (v := 105) C dX12_wordOf_141 (by decide) ?_
    refine g_bipush (pc := 143) (v := 114) C dX12_wordOf_143 (by decide) ?_
    refine g_bipush (pc := 145) (v := 115) C dX12_wordOf_145 (by decide) ?_
    refine g_bipush (pc := 147) (v := 116) C dX12_wordOf_147 (by decide) ?_
    refine g_iconst (pc := 149) (v := 0) C dX12_wordOf_149 (by decide) ?_
    refine g_callS (pc := 150) C (c_X12_word (Xl X) (Xb X) 102 105 114 115 116 0 S) gX12_wordOf_X12_word rfl rfl rfl hd_X12_word ⟨Nat.le_of_ble_eq_true rfl, Nat.le_of_ble_eq_true rfl⟩ rfl rfl (Nat.le_of_ble_eq_true rfl) dX12_wordOf_150 h (fun r18 S17 h => ?_)
    change G X _ S17 153 [(0, .int a1)] [.long r18]
    exact g_lret (pc := 153) C h dX12_wordOf_153
  replace h := ite_f h hq16
  by_cases hq19 : a1 = 6
  · replace h := ite_t h hq19
    refine g_swIn (pc := 1) (tgt := 154) C 6 hq19 dX12_wordOf_1 (by decide) (by decide) rfl (by decide) ?_
    refine g_bipush (pc := 154) (v := 98) C dX12_wordOf_154 (by decide) ?_
    refine g_bipush (pc := 156) (v := 101) C dX12_wordOf_156 (by decide) ?_
    refine g_bipush (pc := 158) (v := 97) C dX12_wordOf_158 (by decide) ?_
    refine g_bipush (pc := 160) (v := 116) C dX12_wordOf_160 (by decide) ?_
    refine g_iconst (pc := 162) (v := 0) C dX12_wordOf_162 (by decide) ?_
    refine g_iconst (pc := 163) (v := 0) C dX12_wordOf_163 (by decide) ?_
    refine g_callS (pc := 164) C (c_X12_word (Xl X) (Xb X) 98 101 97 116 0 0 S) gX12_wordOf_X12_word rfl rfl rfl hd_X12_word ⟨Nat.le_of_ble_eq_true rfl, Nat.le_of_ble_eq_true rfl⟩ rfl rfl (Nat.le_of_ble_eq_true rfl) dX12_wordOf_164 h (fun r21 S20 h => ?_)
    change G X _ S20 167 [(0, .int a1)] [.long r21]
    exact g_lret (pc := 167) C h dX12_wordOf_167
  replace h := ite_f h hq19
  by_cases hq22 : a1 = 7
  · replace h := ite_t h hq22
    refine g_swIn (pc := 1) (tgt := 168) C 7 hq22 dX12_wordOf_1 (by decide) (by decide) rfl (by decide) ?_
    refine g_bipush (pc := 168) (v := 116) C dX12_wordOf_168 (by decide) ?_
    refine g_bipush (pc := 170) (v := 114) C dX12_wordOf_170 (by decide) ?_
    refine g_bipush (pc := 172) (v := 105) C dX12_wordOf_172 (by decide) ?_
    refine g_bipush (pc := 174) (v := 108) C dX12_wordOf_174 (by decide) ?_
    refine g_bipush (pc := 176) (v := 108) C dX12_wordOf_176 (by decide) ?_
    refine g_iconst (pc := 178) (v := 0) C dX12_wordOf_178 (by decide) ?_
    refine g_callS (pc := 179) C (c_X12_word (Xl X) (Xb X) 116 114 105 108 108 0 S) gX12_wordOf_X12_word rfl rfl rfl hd_X12_word ⟨Nat.le_of_ble_eq_true rfl, Nat.le_of_ble_eq_true rfl⟩ rfl rfl (Nat.le_of_ble_eq_true rfl) dX12_wordOf_179 h (fun r24 S23 h => ?_)
    change G X _ S23 182 [(0, .int a1)] [.long r24]
    exact g_lret (pc := 182) C h dX12_wordOf_182
  replace h := ite_f h hq22
  by_cases hq25 : a1 = 8
  · replace h := ite_t h hq25
    refine g_swIn (pc := 1) (tgt := 183) C 8 hq25 dX12_wordOf_1 (by decide) (by decide) rfl (by decide) ?_
    refine g_bipush (pc := 183) (v := 117) C dX12_wordOf_183 (by decide) ?_
    refine g_bipush (pc := 185) (v := 112) C dX12_wordOf_185 (by decide) ?_
    refine g_bipush (pc := 187) (v := 112) C dX12_wordOf_187 (by decide) ?_
    refine g_bipush (pc := 189) (v := 101) C dX12_wordOf_189 (by decide) ?_
    refine g_bipush (pc := 191) (v := 114) C dX12_wordOf_191 (by decide) ?_
    refine g_iconst (pc := 193) (v := 0) C dX12_wordOf_193 (by decide) ?_
    refine g_callS (pc := 194) C (c_X12_word (Xl X) (Xb X) 117 112 112 101 114 0 S) gX12_wordOf_X12_word rfl rfl rfl hd_X12_word ⟨Nat.le_of_ble_eq_true rfl, Nat.le_of_ble_eq_true rfl⟩ rfl rfl (Nat.le_of_ble_eq_true rfl) dX12_wordOf_194 h (fun r27 S26 h => ?_)
    change G X _ S26 197 [(0, .int a1)] [.long r27]
    exact g_lret (pc := 197) C h dX12_wordOf_197
  replace h := ite_f h hq25
  by_cases hq28 : a1 = 9
  · replace h := ite_t h hq28
    refine g_swIn (pc := 1) (tgt := 198) C 9 hq28 dX12_wordOf_1 (by decide) (by decide) rfl (by decide) ?_
    refine g_bipush (pc := 198) (v := 116) C dX12_wordOf_198 (by decide) ?_
    refine g_bipush (pc := 200) (v := 117) C dX12_wordOf_200 (by decide) ?_
    refine g_bipush (pc := 202) (v := 114) C dX12_wordOf_202 (by decide) ?_
    refine g_bipush (pc := 204) (v := 110) C dX12_wordOf_204 (by decide) ?_
    refine g_iconst (pc := 206) (v := 0) C dX12_wordOf_206 (by decide) ?_
    refine g_iconst (pc := 207) (v := 0) C dX12_wordOf_207 (by decide) ?_
    refine g_callS (pc := 208) C (c_X12_word (Xl X) (Xb X) 116 117 114 110 0 0 S) gX12_wordOf_X12_word rfl rfl rfl hd_X12_word ⟨Nat.le_of_ble_eq_true rfl, Nat.le_of_ble_eq_true rfl⟩ rfl rfl (Nat.le_of_ble_eq_true rfl) dX12_wordOf_208 h (fun r30 S29 h => ?_)
    change G X _ S29 211 [(0, .int a1)] [.long r30]
    exact g_lret (pc := 211) C h dX12_wordOf_211
  replace h := ite_f h hq28
  by_cases hq31 : a1 = 10
  · replace h := ite_t h hq31
    refine g_swIn (pc := 1) (tgt := 212) C 10 hq31 dX12_wordOf_1 (by decide) (by decide) rfl (by decide) ?_
    refine g_bipush (pc := 212) (v := 108) C dX12_wordOf_212 (by decide) ?_
    refine g_bipush (pc := 214) (v := 101) C dX12_wordOf_214 (by decide) ?_
    refine g_bipush (pc := 216) (v := 97) C dX12_wordOf_216 (by decide) ?_
    refine g_bipush (pc := 218) (v := 110) C dX12_wordOf_218 (by decide) ?_
    refine g_iconst (pc := 220) (v := 0) C dX12_wordOf_220 (by decide) ?_
    refine g_iconst (pc := 221) (v := 0) C dX12_wordOf_221 (by decide) ?_
    refine g_callS (pc := 222) C (c_X12_word (Xl X) (Xb X) 108 101 97 110 0 0 S) gX12_wordOf_X12_word rfl rfl rfl hd_X12_word ⟨Nat.le_of_ble_eq_true rfl, Nat.le_of_ble_eq_true rfl⟩ rfl rfl (Nat.le_of_ble_eq_true rfl) dX12_wordOf_222 h (fun r33 S32 h => ?_)
    change G X _ S32 225 [(0, .int a1)] [.long r33]
    exact g_lret (pc := 225) C h dX12_wordOf_225
  replace h := ite_f h hq31
  by_cases hq34 : a1 = 11
  · replace h := ite_t h hq34
    refine g_swIn (pc := 1) (tgt := 226) C 11 hq34 dX12_wordOf_1 (by decide) (by decide) rfl (by decide) ?_
    refine g_bipush (pc := 226) (v := 114) C dX12_wordOf_226 (by decide) ?_
    refine g_bipush (pc := 228) (v := 111) C dX12_wordOf_228 (by decide) ?_
    refine g_bipush (pc := 230) (v := 108) C dX12_wordOf_230 (by decide) ?_
    refine g_bipush (pc := 232) (v := 108) C dX12_wordOf_232 (by decide) ?_
    refine g_iconst (pc := 234) (v := 0) C dX12_wordOf_234 (by decide) ?_
    refine g_iconst (pc := 235) (v := 0) C dX12_wordOf_235 (by decide) ?_
    refine g_callS (pc := 236) C (c_X12_word (Xl X) (Xb X) 114 111 108 108 0 0 S) gX12_wordOf_X12_word rfl rfl rfl hd_X12_word ⟨Nat.le_of_ble_eq_true rfl, Nat.le_of_ble_eq_true rfl⟩ rfl rfl (Nat.le_of_ble_eq_true rfl) dX12_wordOf_236 h (fun r36 S35 h => ?_)
    change G X _ S35 239 [(0, .int a1)] [.long r36]
    exact g_lret (pc := 239) C h dX12_wordOf_239
  replace h := ite_f h hq34
  refine g_swOut (pc := 1) (tgt := 240) C (sw_out_11 hq1 hq4 hq7 hq10 hq13 hq16 hq19 hq22 hq25 hq28 hq31 hq34) dX12_wordOf_1 (by decide) ?_
  refine g_bipush (pc := 240) (v := 108) C dX12_wordOf_240 (by decide) ?_
  refine g_bipush (pc := 242) (v := 111) C dX12_wordOf_242 (by decide) ?_
  refine g_bipush (pc := 244) (v := 111) C dX12_wordOf_244 (by decide) ?_
  refine g_bipush (pc := 246) (v := 115) C dX12_wordOf_246 (by decide) ?_
  refine g_bipush (pc := 248) (v := 101) C dX12_wordOf_248 (by decide) ?_
  refine g_iconst (pc := 250) (v := 0) C dX12_wordOf_250 (by decide) ?_
  refine g_callS (pc := 251) C (c_X12_word (Xl X) (Xb X) 108 111 111 115 101 0 S) gX12_wordOf_X12_word rfl rfl rfl hd_X12_word ⟨Nat.le_of_ble_eq_true rfl, Nat.le_of_ble_eq_true rfl⟩ rfl rfl (Nat.le_of_ble_eq_true rfl) dX12_wordOf_251 h (fun r38 S37 h => ?_)
  change G X _ S37 254 [(0, .int a1)] [.long r38]
  exact g_lret (pc := 254) C h dX12_wordOf_254
theorem c_X12_wordOf (l : Launch) (b : Bw) (a1 : Int32) (S : St) : Ct l b yX12_wordOf wsX12_wordOf rmX12_wordOf [.int a1] S mkL (f_X12_wordOf a1 S) := Ct.of (by decide +kernel) rfl (Nat.le_of_ble_eq_true rfl) (fun X C hl hb r h => by
  subst hl; subst hb
  exact s_X12_wordOf_b0 C a1 S h)
/-! StyleRowsModel.named()I -/
set_option maxRecDepth 100000 in
set_option maxHeartbeats 4000000 in
theorem s_X12_named_b2 {X : MC} (C : Cx X cX12_named RX12 wsX12_named 2 rmX12_named (some .int)) {rec2 : Int32 × St → Option (Int32 × St)} (v1 : Int32) (hrec2 : ∀ (s : Int32 × St) (r : Int32 × St), rec2 s = some r → G X (QM mkI X r) s.2 2 [(0, .ref (ad X 12)), (1, .int (s.1))] []) (S : St) {r0 : Int32 × St} (h : f_X12_named_b2 rec2 v1 S = some r0) : G X (QM mkI X r0) S 2 [(0, .ref (ad X 12)), (1, .int v1)] [] := by
  unfold f_X12_named_b2 at h
  refine g_iload_n (pc := 2) C dX12_named_2 rfl 1 rfl ?_
  refine g_bipush (pc := 3) (v := 13) C dX12_named_3 (by decide) ?_
  refine g_icmp_ge (pc := 5) (tgt := 28) C h dX12_named_5 (by decide) (fun h => ?_) (fun h => ?_)
  · refine g_iconst (pc := 28) (v := (-1)) C dX12_named_28 (by decide) ?_
    exact g_iret (pc := 29) C h dX12_named_29
  · refine g_aload_n (pc := 8) C dX12_named_8 rfl 0 rfl ?_
    refine g_get (pc := 9) C 12 (w_12 _ _) rfl 27 (Nat.le_of_ble_eq_true rfl) in_X12_X12_named k144_X12_named rfl dX12_named_9 ?_
    refine g_iload_n (pc := 12) C dX12_named_12 rfl 1 rfl ?_
    refine g_callS (pc := 13) C (c_X12_wordOf (Xl X) (Xb X) v1 S) gX12_named_X12_wordOf rfl rfl rfl hd_X12_wordOf ⟨Nat.le_of_ble_eq_true rfl, Nat.le_of_ble_eq_true rfl⟩ rfl rfl (Nat.le_of_ble_eq_true rfl) dX12_named_13 h (fun r2 S1 h => ?_)
    change G X _ S1 16 [(0, .ref (ad X 12)), (1, .int v1)] [.long r2, .long (gJ S 2)]
    refine g_lcmp (pc := 16) C dX12_named_16 ?_
    refine g_if_ne (pc := 17) (tgt := 22) C h dX12_named_17 (by decide) (fun h => ?_) (fun h => ?_)
    · refine g_iinc (pc := 22) (v := v1 + 1) C [(1, .int (v1 + 1)), (0, .ref (ad X 12))] dX12_named_22 1 rfl rfl (Nat.le_of_ble_eq_true rfl) rfl ?_
      refine g_goto (pc := 25) (tgt := 2) C dX12_named_25 (by decide) ?_
      refine g_weak (lv1 := [(0, .ref (ad X 12)), (1, .int (v1 + 1))]) [1, 0] rfl ?_
      exact hrec2 (v1 + 1, S1) _ h
    · refine g_iload_n (pc := 20) C dX12_named_20 rfl 1 rfl ?_
      exact g_iret (pc := 21) C h dX12_named_21
set_option maxRecDepth 100000 in
set_option maxHeartbeats 4000000 in
theorem s_X12_named_l2 {X : MC} (C : Cx X cX12_named RX12 wsX12_named 2 rmX12_named (some .int)) : ∀ (n : Nat) (s : Int32 × St) (r : Int32 × St), f_X12_named_l2 n s = some r → G X (QM mkI X r) s.2 2 [(0, .ref (ad X 12)), (1, .int (s.1))] [] :=
  loop_sound (fun rec2 hrec2 s r h => s_X12_named_b2 C s.1 hrec2 s.2 h)
set_option maxRecDepth 100000 in
set_option maxHeartbeats 4000000 in
theorem s_X12_named_b0 {X : MC} (C : Cx X cX12_named RX12 wsX12_named 2 rmX12_named (some .int)) (S : St) {r0 : Int32 × St} (h : f_X12_named_b0 S = some r0) : G X (QM mkI X r0) S 0 [(0, .ref (ad X 12))] [] := by
  unfold f_X12_named_b0 at h
  refine g_iconst (pc := 0) (v := 0) C dX12_named_0 (by decide) ?_
  refine g_istore_n (pc := 1) C [(1, .int 0), (0, .ref (ad X 12))] dX12_named_1 rfl (Nat.le_of_ble_eq_true rfl) rfl ?_
  refine g_weak (lv1 := [(0, .ref (ad X 12)), (1, .int 0)]) [1, 0] rfl ?_
  exact s_X12_named_l2 C  _ (0, S) _ h
theorem c_X12_named (l : Launch) (b : Bw) (S : St) : Ct l b yX12_named wsX12_named rmX12_named [.ref (bad b 12)] S mkI (f_X12_named S) := Ct.of (by decide +kernel) rfl (Nat.le_of_ble_eq_true rfl) (fun X C hl hb r h => by
  subst hl; subst hb
  exact s_X12_named_b0 C S h)
/-! StyleRowsModel.takeRule(I)Z -/
set_option maxRecDepth 100000 in
set_option maxHeartbeats 4000000 in
theorem s_X12_takeRule_b14 {X : MC} (C : Cx X cX12_takeRule RX12 wsX12_takeRule 3 rmX12_takeRule (some .boolean)) (S : St) {r0 : Int32 × St} (h : f_X12_takeRule_b14 S = some r0) : G X (QM mkI X r0) S 14 [] [] := by
  unfold f_X12_takeRule_b14 at h
  refine g_iconst (pc := 14) (v := 0) C dX12_takeRule_14 (by decide) ?_
  exact g_zretc (pc := 15) C rfl h dX12_takeRule_15
set_option maxRecDepth 100000 in
set_option maxHeartbeats 4000000 in
theorem s_X12_takeRule_b222 {X : MC} (C : Cx X cX12_takeRule RX12 wsX12_takeRule 3 rmX12_takeRule (some .boolean)) (w0 : Int32) (S : St) {r0 : Int32 × St} (h : f_X12_takeRule_b222 w0 S = some r0) : G X (QM mkI X r0) S 222 [] [.int w0] := by
  unfold f_X12_takeRule_b222 at h
  exact g_zret (pc := 222) C h dX12_takeRule_222
set_option maxRecDepth 100000 in
set_option maxHeartbeats 4000000 in
theorem s_X12_takeRule_b209 {X : MC} (C : Cx X cX12_takeRule RX12 wsX12_takeRule 3 rmX12_takeRule (some .boolean)) (S : St) {r0 : Int32 × St} (h : f_X12_takeRule_b209 S = some r0) : G X (QM mkI X r0) S 209 [(0, .ref (ad X 12))] [] := by
  unfold f_X12_takeRule_b209 at h
  refine g_aload_n (pc := 209) C dX12_takeRule_209 rfl 0 rfl ?_
  refine g_get (pc := 210) C 12 (w_12 _ _) rfl 24 (Nat.le_of_ble_eq_true rfl) in_X12_X12_takeRule k151_X12_takeRule rfl dX12_takeRule_210 ?_
  refine g_iconst (pc := 213) (v := 3) C dX12_takeRule_213 (by decide) ?_
  refine g_icmp_ne (pc := 214) (tgt := 221) C h dX12_takeRule_214 (by decide) (fun h => ?_) (fun h => ?_)
  · refine g_iconst (pc := 221) (v := 0) C dX12_takeRule_221 (by decide) ?_
    refine g_weak (lv1 := []) [] rfl ?_
    exact s_X12_takeRule_b222 C 0  S h
  · refine g_iconst (pc := 217) (v := 1) C dX12_takeRule_217 (by decide) ?_
    refine g_goto (pc := 218) (tgt := 222) C dX12_takeRule_218 (by decide) ?_
    refine g_weak (lv1 := []) [] rfl ?_
    exact s_X12_takeRule_b222 C 1  S h
set_option maxRecDepth 100000 in
set_option maxHeartbeats 4000000 in
theorem s_X12_takeRule_b98 {X : MC} (C : Cx X cX12_takeRule RX12 wsX12_takeRule 3 rmX12_takeRule (some .boolean)) (v1 : Int32) (w0 : Int32) (S : St) {r0 : Int32 × St} (h : f_X12_takeRule_b98 v1 w0 S = some r0) : G X (QM mkI X r0) S 98 [(0, .ref (ad X 12)), (1, .int v1)] [.int w0] := by
  unfold f_X12_takeRule_b98 at h
  refine g_istore_n (pc := 98) C [(2, .int w0), (0, .ref (ad X 12)), (1, .int v1)] dX12_takeRule_98 rfl (Nat.le_of_ble_eq_true rfl) rfl ?_
  refine g_iload_n (pc := 99) C dX12_takeRule_99 rfl 0 rfl ?_
  refine g_iconst (pc := 100) (v := (-1)) C dX12_takeRule_100 (by decide) ?_
  refine g_icmp_ne (pc := 101) (tgt := 106) C h dX12_takeRule_101 (by decide) (fun h => ?_) (fun h => ?_)
  · refine g_aload_n (pc := 106) C dX12_takeRule_106 rfl 1 rfl ?_
    refine g_get (pc := 107) C 12 (w_12 _ _) rfl 19 (Nat.le_of_ble_eq_true rfl) in_X12_X12_takeRule k54_X12_takeRule rfl dX12_takeRule_107 ?_
    refine g_iload_n (pc := 110) C dX12_takeRule_110 rfl 2 rfl ?_
    refine g_iload_n (pc := 111) C dX12_takeRule_111 rfl 0 rfl ?_
    refine g_iast (pc := 112) C 61 (w_61 _ _) (ws_61 _ _) h dX12_takeRule_112 (fun S5 h => ?_)
    refine g_aload_n (pc := 113) C dX12_takeRule_113 rfl 1 rfl ?_
    refine g_callV (pc := 114) C 12 (c_X12_take (Xl X) (Xb X) S5) gX12_takeRule_X12_take rfl rfl rfl hd_X12_take ⟨Nat.le_of_ble_eq_true rfl, Nat.le_of_ble_eq_true rfl⟩ (w_12 _ _) rfl rfl rfl (Nat.le_of_ble_eq_true rfl) dX12_takeRule_114 h (fun _u6 S6 h => ?_)
    change G X _ S6 117 [(2, .int w0), (0, .ref (ad X 12)), (1, .int v1)] []
    refine g_aload_n (pc := 117) C dX12_takeRule_117 rfl 1 rfl ?_
    refine g_iload_n (pc := 118) C dX12_takeRule_118 rfl 0 rfl ?_
    refine g_callS (pc := 119) C (c_X12_lowest (Xl X) (Xb X) w0 S6) gX12_takeRule_X12_lowest rfl rfl rfl hd_X12_lowest ⟨Nat.le_of_ble_eq_true rfl, Nat.le_of_ble_eq_true rfl⟩ rfl rfl (Nat.le_of_ble_eq_true rfl) dX12_takeRule_119 h (fun r8 S7 h => ?_)
    change G X _ S7 122 [(2, .int w0), (0, .ref (ad X 12)), (1, .int v1)] [.int r8, .ref (ad X 12)]
    refine g_iload_n (pc := 122) C dX12_takeRule_122 rfl 0 rfl ?_
    refine g_callS (pc := 123) C (c_X12_highest (Xl X) (Xb X) w0 S7) gX12_takeRule_X12_highest rfl rfl rfl hd_X12_highest ⟨Nat.le_of_ble_eq_true rfl, Nat.le_of_ble_eq_true rfl⟩ rfl rfl (Nat.le_of_ble_eq_true rfl) dX12_takeRule_123 h (fun r10 S9 h => ?_)
    change G X _ S9 126 [(2, .int w0), (0, .ref (ad X 12)), (1, .int v1)] [.int r10, .int r8, .ref (ad X 12)]
    refine g_callV (pc := 126) C 12 (c_X12_isNumber (Xl X) (Xb X) r8 r10 S9) gX12_takeRule_X12_isNumber rfl rfl rfl hd_X12_isNumber ⟨Nat.le_of_ble_eq_true rfl, Nat.le_of_ble_eq_true rfl⟩ (w_12 _ _) rfl rfl rfl (Nat.le_of_ble_eq_true rfl) dX12_takeRule_126 h (fun r12 S11 h => ?_)
    change G X _ S11 129 [(2, .int w0), (0, .ref (ad X 12)), (1, .int v1)] [.int r12]
    refine g_if_ne (pc := 129) (tgt := 134) C h dX12_takeRule_129 (by decide) (fun h => ?_) (fun h => ?_)
    · refine g_aload_n (pc := 134) C dX12_takeRule_134 rfl 1 rfl ?_
      refine g_get (pc := 135) C 12 (w_12 _ _) rfl 20 (Nat.le_of_ble_eq_true rfl) in_X12_X12_takeRule k57_X12_takeRule rfl dX12_takeRule_135 ?_
      refine g_iload_n (pc := 138) C dX12_takeRule_138 rfl 2 rfl ?_
      refine g_aload_n (pc := 139) C dX12_takeRule_139 rfl 1 rfl ?_
      refine g_get (pc := 140) C 12 (w_12 _ _) rfl 27 (Nat.le_of_ble_eq_true rfl) in_X12_X12_takeRule k144_X12_takeRule rfl dX12_takeRule_140 ?_
      refine g_l2i (pc := 143) C dX12_takeRule_143 ?_
      refine g_iast (pc := 144) C 62 (w_62 _ _) (ws_62 _ _) h dX12_takeRule_144 (fun S13 h => ?_)
      refine g_aload_n (pc := 145) C dX12_takeRule_145 rfl 1 rfl ?_
      refine g_callV (pc := 146) C 12 (c_X12_take (Xl X) (Xb X) S13) gX12_takeRule_X12_take rfl rfl rfl hd_X12_take ⟨Nat.le_of_ble_eq_true rfl, Nat.le_of_ble_eq_true rfl⟩ (w_12 _ _) rfl rfl rfl (Nat.le_of_ble_eq_true rfl) dX12_takeRule_146 h (fun _u14 S14 h => ?_)
      change G X _ S14 149 [(2, .int w0), (0, .ref (ad X 12)), (1, .int v1)] []
      refine g_aload_n (pc := 149) C dX12_takeRule_149 rfl 1 rfl ?_
      refine g_get (pc := 150) C 12 (w_12 _ _) rfl 24 (Nat.le_of_ble_eq_true rfl) in_X12_X12_takeRule k151_X12_takeRule rfl dX12_takeRule_150 ?_
      refine g_iconst (pc := 153) (v := 1) C dX12_takeRule_153 (by decide) ?_
      refine g_icmp_ne (pc := 154) (tgt := 209) C h dX12_takeRule_154 (by decide) (fun h => ?_) (fun h => ?_)
      · refine g_weak (lv1 := [(0, .ref (ad X 12))]) [1] rfl ?_
        exact s_X12_takeRule_b209 C   S14 h
      · refine g_aload_n (pc := 157) C dX12_takeRule_157 rfl 1 rfl ?_
        refine g_get (pc := 158) C 12 (w_12 _ _) rfl 27 (Nat.le_of_ble_eq_true rfl) in_X12_X12_takeRule k144_X12_takeRule rfl dX12_takeRule_158 ?_
        refine g_bipush (pc := 161) (v := 114) C dX12_takeRule_161 (by decide) ?_
        refine g_bipush (pc := 163) (v := 97) C dX12_takeRule_163 (by decide) ?_
        refine g_bipush (pc := 165) (v := 110) C dX12_takeRule_165 (by decide) ?_
        refine g_bipush (pc := 167) (v := 107) C dX12_takeRule_167 (by decide) ?_
        refine g_iconst (pc := 169) (v := 0) C dX12_takeRule_169 (by decide) ?_
        refine g_iconst (pc := 170) (v := 0) C dX12_takeRule_170 (by decide) ?_
        refine g_callS (pc := 171) C (c_X12_word (Xl X) (Xb X) 114 97 110 107 0 0 S14) gX12_takeRule_X12_word rfl rfl rfl hd_X12_word ⟨Nat.le_of_ble_eq_true rfl, Nat.le_of_ble_eq_true rfl⟩ rfl rfl (Nat.le_of_ble_eq_true rfl) dX12_takeRule_171 h (fun r16 S15 h => ?_)
        change G X _ S15 174 [(2, .int w0), (0, .ref (ad X 12)), (1, .int v1)] [.long r16, .long (gJ S14 2)]
        refine g_lcmp (pc := 174) C dX12_takeRule_174 ?_
        refine g_if_ne (pc := 175) (tgt := 209) C h dX12_takeRule_175 (by decide) (fun h => ?_) (fun h => ?_)
        · refine g_weak (lv1 := [(0, .ref (ad X 12))]) [1] rfl ?_
          exact s_X12_takeRule_b209 C   S15 h
        · refine g_aload_n (pc := 178) C dX12_takeRule_178 rfl 1 rfl ?_
          refine g_callV (pc := 179) C 12 (c_X12_take (Xl X) (Xb X) S15) gX12_takeRule_X12_take rfl rfl rfl hd_X12_take ⟨Nat.le_of_ble_eq_true rfl, Nat.le_of_ble_eq_true rfl⟩ (w_12 _ _) rfl rfl rfl (Nat.le_of_ble_eq_true rfl) dX12_takeRule_179 h (fun _u17 S17 h => ?_)
          change G X _ S17 182 [(2, .int w0), (0, .ref (ad X 12)), (1, .int v1)] []
          refine g_aload_n (pc := 182) C dX12_takeRule_182 rfl 1 rfl ?_
          refine g_iconst (pc := 183) (v := 0) C dX12_takeRule_183 (by decide) ?_
          refine g_bipush (pc := 184) (v := 9) C dX12_takeRule_184 (by decide) ?_
          refine g_callV (pc := 186) C 12 (c_X12_isNumber (Xl X) (Xb X) 0 9 S17) gX12_takeRule_X12_isNumber rfl rfl rfl hd_X12_isNumber ⟨Nat.le_of_ble_eq_true rfl, Nat.le_of_ble_eq_true rfl⟩ (w_12 _ _) rfl rfl rfl (Nat.le_of_ble_eq_true rfl) dX12_takeRule_186 h (fun r19 S18 h => ?_)
          change G X _ S18 189 [(2, .int w0), (0, .ref (ad X 12)), (1, .int v1)] [.int r19]
          refine g_if_ne (pc := 189) (tgt := 194) C h dX12_takeRule_189 (by decide) (fun h => ?_) (fun h => ?_)
          · refine g_aload_n (pc := 194) C dX12_takeRule_194 rfl 1 rfl ?_
            refine g_get (pc := 195) C 12 (w_12 _ _) rfl 21 (Nat.le_of_ble_eq_true rfl) in_X12_X12_takeRule k60_X12_takeRule rfl dX12_takeRule_195 ?_
            refine g_iload_n (pc := 198) C dX12_takeRule_198 rfl 2 rfl ?_
            refine g_aload_n (pc := 199) C dX12_takeRule_199 rfl 1 rfl ?_
            refine g_get (pc := 200) C 12 (w_12 _ _) rfl 27 (Nat.le_of_ble_eq_true rfl) in_X12_X12_takeRule k144_X12_takeRule rfl dX12_takeRule_200 ?_
            refine g_l2i (pc := 203) C dX12_takeRule_203 ?_
            refine g_iast (pc := 204) C 63 (w_63 _ _) (ws_63 _ _) h dX12_takeRule_204 (fun S20 h => ?_)
            refine g_aload_n (pc := 205) C dX12_takeRule_205 rfl 1 rfl ?_
            refine g_callV (pc := 206) C 12 (c_X12_take (Xl X) (Xb X) S20) gX12_takeRule_X12_take rfl rfl rfl hd_X12_take ⟨Nat.le_of_ble_eq_true rfl, Nat.le_of_ble_eq_true rfl⟩ (w_12 _ _) rfl rfl rfl (Nat.le_of_ble_eq_true rfl) dX12_takeRule_206 h (fun _u21 S21 h => ?_)
            change G X _ S21 209 [(2, .int w0), (0, .ref (ad X 12)), (1, .int v1)] []
            refine g_weak (lv1 := [(0, .ref (ad X 12))]) [1] rfl ?_
            exact s_X12_takeRule_b209 C   S21 h
          · refine g_iconst (pc := 192) (v := 0) C dX12_takeRule_192 (by decide) ?_
            exact g_zretc (pc := 193) C rfl h dX12_takeRule_193
    · refine g_iconst (pc := 132) (v := 0) C dX12_takeRule_132 (by decide) ?_
      exact g_zretc (pc := 133) C rfl h dX12_takeRule_133
  · refine g_iconst (pc := 104) (v := 0) C dX12_takeRule_104 (by decide) ?_
    exact g_zretc (pc := 105) C rfl h dX12_takeRule_105
set_option maxRecDepth 100000 in
set_option maxHeartbeats 4000000 in
theorem s_X12_takeRule_b82 {X : MC} (C : Cx X cX12_takeRule RX12 wsX12_takeRule 3 rmX12_takeRule (some .boolean)) (v1 : Int32) (S : St) {r0 : Int32 × St} (h : f_X12_takeRule_b82 v1 S = some r0) : G X (QM mkI X r0) S 82 [(0, .ref (ad X 12)), (1, .int v1)] [] := by
  unfold f_X12_takeRule_b82 at h
  refine g_aload_n (pc := 82) C dX12_takeRule_82 rfl 0 rfl ?_
  refine g_get (pc := 83) C 12 (w_12 _ _) rfl 24 (Nat.le_of_ble_eq_true rfl) in_X12_X12_takeRule k151_X12_takeRule rfl dX12_takeRule_83 ?_
  refine g_iconst (pc := 86) (v := 1) C dX12_takeRule_86 (by decide) ?_
  refine g_icmp_ne (pc := 87) (tgt := 97) C h dX12_takeRule_87 (by decide) (fun h => ?_) (fun h => ?_)
  · refine g_iconst (pc := 97) (v := (-1)) C dX12_takeRule_97 (by decide) ?_
    refine g_weak (lv1 := [(0, .ref (ad X 12)), (1, .int v1)]) [0, 1] rfl ?_
    exact s_X12_takeRule_b98 C v1 (-1)  S h
  · refine g_aload_n (pc := 90) C dX12_takeRule_90 rfl 0 rfl ?_
    refine g_callV (pc := 91) C 12 (c_X12_named (Xl X) (Xb X) S) gX12_takeRule_X12_named rfl rfl rfl hd_X12_named ⟨Nat.le_of_ble_eq_true rfl, Nat.le_of_ble_eq_true rfl⟩ (w_12 _ _) rfl rfl rfl (Nat.le_of_ble_eq_true rfl) dX12_takeRule_91 h (fun r23 S22 h => ?_)
    change G X _ S22 94 [(0, .ref (ad X 12)), (1, .int v1)] [.int r23]
    refine g_goto (pc := 94) (tgt := 98) C dX12_takeRule_94 (by decide) ?_
    refine g_weak (lv1 := [(0, .ref (ad X 12)), (1, .int v1)]) [0, 1] rfl ?_
    exact s_X12_takeRule_b98 C v1 r23  S22 h
set_option maxRecDepth 100000 in
set_option maxHeartbeats 4000000 in
theorem s_X12_takeRule_b0 {X : MC} (C : Cx X cX12_takeRule RX12 wsX12_takeRule 3 rmX12_takeRule (some .boolean)) (a1 : Int32) (S : St) {r0 : Int32 × St} (h : f_X12_takeRule_b0 a1 S = some r0) : G X (QM mkI X r0) S 0 [(0, .ref (ad X 12)), (1, .int a1)] [] := by
  unfold f_X12_takeRule_b0 at h
  refine g_iload_n (pc := 0) C dX12_takeRule_0 rfl 1 rfl ?_
  refine g_bipush (pc := 1) (v := 24) C dX12_takeRule_1 (by decide) ?_
  refine g_icmp_eq (pc := 3) (tgt := 14) C h dX12_takeRule_3 (by decide) (fun h => ?_) (fun h => ?_)
  · refine g_weak (lv1 := []) [] rfl ?_
    exact s_X12_takeRule_b14 C   S h
  · refine g_aload_n (pc := 6) C dX12_takeRule_6 rfl 0 rfl ?_
    refine g_get (pc := 7) C 12 (w_12 _ _) rfl 24 (Nat.le_of_ble_eq_true rfl) in_X12_X12_takeRule k151_X12_takeRule rfl dX12_takeRule_7 ?_
    refine g_iconst (pc := 10) (v := 1) C dX12_takeRule_10 (by decide) ?_
    refine g_icmp_eq (pc := 11) (tgt := 16) C h dX12_takeRule_11 (by decide) (fun h => ?_) (fun h => ?_)
    · refine g_aload_n (pc := 16) C dX12_takeRule_16 rfl 0 rfl ?_
      refine g_get (pc := 17) C 12 (w_12 _ _) rfl 18 (Nat.le_of_ble_eq_true rfl) in_X12_X12_takeRule k51_X12_takeRule rfl dX12_takeRule_17 ?_
      refine g_iload_n (pc := 20) C dX12_takeRule_20 rfl 1 rfl ?_
      refine g_iconst (pc := 21) (v := (-1)) C dX12_takeRule_21 (by decide) ?_
      refine g_iast (pc := 22) C 60 (w_60 _ _) (ws_60 _ _) h dX12_takeRule_22 (fun S1 h => ?_)
      refine g_aload_n (pc := 23) C dX12_takeRule_23 rfl 0 rfl ?_
      refine g_get (pc := 24) C 12 (w_12 _ _) rfl 21 (Nat.le_of_ble_eq_true rfl) in_X12_X12_takeRule k60_X12_takeRule rfl dX12_takeRule_24 ?_
      refine g_iload_n (pc := 27) C dX12_takeRule_27 rfl 1 rfl ?_
      refine g_iconst (pc := 28) (v := 0) C dX12_takeRule_28 (by decide) ?_
      refine g_iast (pc := 29) C 63 (w_63 _ _) (ws_63 _ _) h dX12_takeRule_29 (fun S2 h => ?_)
      refine g_aload_n (pc := 30) C dX12_takeRule_30 rfl 0 rfl ?_
      refine g_get (pc := 31) C 12 (w_12 _ _) rfl 27 (Nat.le_of_ble_eq_true rfl) in_X12_X12_takeRule k144_X12_takeRule rfl dX12_takeRule_31 ?_
      refine g_bipush (pc := 34) (v := 118) C dX12_takeRule_34 (by decide) ?_
      refine g_bipush (pc := 36) (v := 111) C dX12_takeRule_36 (by decide) ?_
      refine g_bipush (pc := 38) (v := 105) C dX12_takeRule_38 (by decide) ?_
      refine g_bipush (pc := 40) (v := 99) C dX12_takeRule_40 (by decide) ?_
      refine g_bipush (pc := 42) (v := 101) C dX12_takeRule_42 (by decide) ?_
      refine g_iconst (pc := 44) (v := 0) C dX12_takeRule_44 (by decide) ?_
      refine g_callS (pc := 45) C (c_X12_word (Xl X) (Xb X) 118 111 105 99 101 0 S2) gX12_takeRule_X12_word rfl rfl rfl hd_X12_word ⟨Nat.le_of_ble_eq_true rfl, Nat.le_of_ble_eq_true rfl⟩ rfl rfl (Nat.le_of_ble_eq_true rfl) dX12_takeRule_45 h (fun r4 S3 h => ?_)
      change G X _ S3 48 [(0, .ref (ad X 12)), (1, .int a1)] [.long r4, .long (gJ S2 2)]
      refine g_lcmp (pc := 48) C dX12_takeRule_48 ?_
      refine g_if_ne (pc := 49) (tgt := 82) C h dX12_takeRule_49 (by decide) (fun h => ?_) (fun h => ?_)
      · refine g_weak (lv1 := [(0, .ref (ad X 12)), (1, .int a1)]) [0, 1] rfl ?_
        exact s_X12_takeRule_b82 C a1  S3 h
      · refine g_aload_n (pc := 52) C dX12_takeRule_52 rfl 0 rfl ?_
        refine g_callV (pc := 53) C 12 (c_X12_take (Xl X) (Xb X) S3) gX12_takeRule_X12_take rfl rfl rfl hd_X12_take ⟨Nat.le_of_ble_eq_true rfl, Nat.le_of_ble_eq_true rfl⟩ (w_12 _ _) rfl rfl rfl (Nat.le_of_ble_eq_true rfl) dX12_takeRule_53 h (fun _u24 S24 h => ?_)
        change G X _ S24 56 [(0, .ref (ad X 12)), (1, .int a1)] []
        refine g_aload_n (pc := 56) C dX12_takeRule_56 rfl 0 rfl ?_
        refine g_iconst (pc := 57) (v := 0) C dX12_takeRule_57 (by decide) ?_
        refine g_iconst (pc := 58) (v := 3) C dX12_takeRule_58 (by decide) ?_
        refine g_callV (pc := 59) C 12 (c_X12_isNumber (Xl X) (Xb X) 0 3 S24) gX12_takeRule_X12_isNumber rfl rfl rfl hd_X12_isNumber ⟨Nat.le_of_ble_eq_true rfl, Nat.le_of_ble_eq_true rfl⟩ (w_12 _ _) rfl rfl rfl (Nat.le_of_ble_eq_true rfl) dX12_takeRule_59 h (fun r26 S25 h => ?_)
        change G X _ S25 62 [(0, .ref (ad X 12)), (1, .int a1)] [.int r26]
        refine g_if_ne (pc := 62) (tgt := 67) C h dX12_takeRule_62 (by decide) (fun h => ?_) (fun h => ?_)
        · refine g_aload_n (pc := 67) C dX12_takeRule_67 rfl 0 rfl ?_
          refine g_get (pc := 68) C 12 (w_12 _ _) rfl 18 (Nat.le_of_ble_eq_true rfl) in_X12_X12_takeRule k51_X12_takeRule rfl dX12_takeRule_68 ?_
          refine g_iload_n (pc := 71) C dX12_takeRule_71 rfl 1 rfl ?_
          refine g_aload_n (pc := 72) C dX12_takeRule_72 rfl 0 rfl ?_
          refine g_get (pc := 73) C 12 (w_12 _ _) rfl 27 (Nat.le_of_ble_eq_true rfl) in_X12_X12_takeRule k144_X12_takeRule rfl dX12_takeRule_73 ?_
          refine g_l2i (pc := 76) C dX12_takeRule_76 ?_
          refine g_iast (pc := 77) C 60 (w_60 _ _) (ws_60 _ _) h dX12_takeRule_77 (fun S27 h => ?_)
          refine g_aload_n (pc := 78) C dX12_takeRule_78 rfl 0 rfl ?_
          refine g_callV (pc := 79) C 12 (c_X12_take (Xl X) (Xb X) S27) gX12_takeRule_X12_take rfl rfl rfl hd_X12_take ⟨Nat.le_of_ble_eq_true rfl, Nat.le_of_ble_eq_true rfl⟩ (w_12 _ _) rfl rfl rfl (Nat.le_of_ble_eq_true rfl) dX12_takeRule_79 h (fun _u28 S28 h => ?_)
          change G X _ S28 82 [(0, .ref (ad X 12)), (1, .int a1)] []
          refine g_weak (lv1 := [(0, .ref (ad X 12)), (1, .int a1)]) [0, 1] rfl ?_
          exact s_X12_takeRule_b82 C a1  S28 h
        · refine g_iconst (pc := 65) (v := 0) C dX12_takeRule_65 (by decide) ?_
          exact g_zretc (pc := 66) C rfl h dX12_takeRule_66
    · refine g_weak (lv1 := []) [] rfl ?_
      exact s_X12_takeRule_b14 C   S h
theorem c_X12_takeRule (l : Launch) (b : Bw) (a1 : Int32) (S : St) : Ct l b yX12_takeRule wsX12_takeRule rmX12_takeRule [.ref (bad b 12), .int a1] S mkI (f_X12_takeRule a1 S) := Ct.of (by decide +kernel) rfl (Nat.le_of_ble_eq_true rfl) (fun X C hl hb r h => by
  subst hl; subst hb
  exact s_X12_takeRule_b0 C a1 S h)
