/-! StyleRows.rule(II)I -/
set_option maxRecDepth 100000 in
set_option maxHeartbeats 4000000 in
theorem s_X11_rule_b37 {X : MC} (C : Cx X cX11_rule RX11 wsX11_rule 3 rmX11_rule (some .int)) (w0 : Int32) (S : St) {r0 : Int32 × St} (h : f_X11_rule_b37 w0 S = some r0) : G X (QM mkI X r0) S 37 [] [.int w0] := by
  unfold f_X11_rule_b37 at h
  exact g_iret (pc := 37) C h dX11_rule_37
set_option maxRecDepth 100000 in
set_option maxHeartbeats 4000000 in
theorem s_X11_rule_b34 {X : MC} (C : Cx X cX11_rule RX11 wsX11_rule 3 rmX11_rule (some .int)) (S : St) {r0 : Int32 × St} (h : f_X11_rule_b34 S = some r0) : G X (QM mkI X r0) S 34 [] [] := by
  unfold f_X11_rule_b34 at h
  refine g_sipush (pc := 34) (v := (-1001)) C dX11_rule_34 (by decide) ?_
  refine g_weak (lv1 := []) [] rfl ?_
  exact s_X11_rule_b37 C (-1001)  S h
set_option maxRecDepth 100000 in
set_option maxHeartbeats 4000000 in
theorem s_X11_rule_b0 {X : MC} (C : Cx X cX11_rule RX11 wsX11_rule 3 rmX11_rule (some .int)) (a1 : Int32) (a2 : Int32) (S : St) {r0 : Int32 × St} (h : f_X11_rule_b0 a1 a2 S = some r0) : G X (QM mkI X r0) S 0 [(0, .ref (ad X 0)), (1, .int a1), (2, .int a2)] [] := by
  unfold f_X11_rule_b0 at h
  refine g_aload_n (pc := 0) C dX11_rule_0 rfl 0 rfl ?_
  refine g_get (pc := 1) C 0 (w_0 _ _) rfl 3 (Nat.le_of_ble_eq_true rfl) in_X11_X11_rule k30_X11_rule rfl dX11_rule_1 ?_
  refine g_iload_n (pc := 4) C dX11_rule_4 rfl 1 rfl ?_
  refine g_callV (pc := 5) C 6 (c_X8_has (Xl X) (Xb X) a1 S) gX11_rule_X8_has rfl rfl rfl hd_X8_has ⟨Nat.le_of_ble_eq_true rfl, Nat.le_of_ble_eq_true rfl⟩ (w_6 _ _) rfl rfl rfl (Nat.le_of_ble_eq_true rfl) dX11_rule_5 h (fun r2 S1 h => ?_)
  change G X _ S1 8 [(0, .ref (ad X 0)), (1, .int a1), (2, .int a2)] [.int r2]
  refine g_if_eq (pc := 8) (tgt := 34) C h dX11_rule_8 (by decide) (fun h => ?_) (fun h => ?_)
  · refine g_weak (lv1 := []) [] rfl ?_
    exact s_X11_rule_b34 C   S1 h
  · refine g_iload_n (pc := 11) C dX11_rule_11 rfl 2 rfl ?_
    refine g_iconst (pc := 12) (v := 0) C dX11_rule_12 (by decide) ?_
    refine g_iconst (pc := 13) (v := 3) C dX11_rule_13 (by decide) ?_
    refine g_callS (pc := 14) C (c_X11_isWithin (Xl X) (Xb X) a2 0 3 S1) gX11_rule_X11_isWithin rfl rfl rfl hd_X11_isWithin ⟨Nat.le_of_ble_eq_true rfl, Nat.le_of_ble_eq_true rfl⟩ rfl rfl (Nat.le_of_ble_eq_true rfl) dX11_rule_14 h (fun r4 S3 h => ?_)
    change G X _ S3 17 [(0, .ref (ad X 0)), (1, .int a1), (2, .int a2)] [.int r4]
    refine g_if_eq (pc := 17) (tgt := 34) C h dX11_rule_17 (by decide) (fun h => ?_) (fun h => ?_)
    · refine g_weak (lv1 := []) [] rfl ?_
      exact s_X11_rule_b34 C   S3 h
    · refine g_aload_n (pc := 20) C dX11_rule_20 rfl 0 rfl ?_
      refine g_get (pc := 21) C 0 (w_0 _ _) rfl 3 (Nat.le_of_ble_eq_true rfl) in_X11_X11_rule k30_X11_rule rfl dX11_rule_21 ?_
      refine g_getN (pc := 24) C 6 (w_6 _ _) rfl 0 (Nat.le_of_ble_eq_true rfl) in_X8_X11_rule nw_X11_142 rfl dX11_rule_24 ?_
      refine g_iload_n (pc := 27) C dX11_rule_27 rfl 2 rfl ?_
      refine g_aald (pc := 28) C 25 _ (w_25 _ _) rfl h dX11_rule_28 (fun hn5 h => ?_)
      refine g_iload_n (pc := 29) C dX11_rule_29 rfl 1 rfl ?_
      refine g_iald (pc := 30) C _ (wg_25 _ _ _ hn5) h dX11_rule_30 (fun h => ?_)
      refine g_goto (pc := 31) (tgt := 37) C dX11_rule_31 (by decide) ?_
      refine g_weak (lv1 := []) [] rfl ?_
      exact s_X11_rule_b37 C (rd S3 (26 + Int32.toNatClampNeg a2) a1)  S3 h
theorem c_X11_rule (l : Launch) (b : Bw) (a1 : Int32) (a2 : Int32) (S : St) : Ct l b yX11_rule wsX11_rule rmX11_rule [.ref (bad b 0), .int a1, .int a2] S mkI (f_X11_rule a1 a2 S) := Ct.of (by decide +kernel) rfl (Nat.le_of_ble_eq_true rfl) (fun X C hl hb r h => by
  subst hl; subst hb
  exact s_X11_rule_b0 C a1 a2 S h)
/-! StyleRows$Names.has(I)Z -/
set_option maxRecDepth 100000 in
set_option maxHeartbeats 4000000 in
theorem s_X3_has_b0 {X : MC} (C : Cx X cX3_has RX3 wsX3_has 1 rmX3_has (some .boolean)) (a1 : Int32) (S : St) {r0 : Int32 × St} (h : f_X3_has_b0 a1 S = some r0) : G X (QM mkI X r0) S 0 [(0, .int a1)] [] := by
  unfold f_X3_has_b0 at h
  refine g_iload_n (pc := 0) C dX3_has_0 rfl 0 rfl ?_
  refine g_iconst (pc := 1) (v := 0) C dX3_has_1 (by decide) ?_
  refine g_bipush (pc := 2) (v := 12) C dX3_has_2 (by decide) ?_
  refine g_callSN (pc := 4) C (c_X11_isWithin (Xl X) (Xb X) a1 0 12 S) gX3_has_X11_isWithin_n9 rfl rfl rfl nw_X3_9 kiniX11_X3_has kstX11_isWithin_X3_has hd_X11_isWithin ⟨Nat.le_of_ble_eq_true rfl, Nat.le_of_ble_eq_true rfl⟩ rfl rfl (Nat.le_of_ble_eq_true rfl) dX3_has_4 h (fun r2 S1 h => ?_)
  change G X _ S1 7 [(0, .int a1)] [.int r2]
  exact g_zret (pc := 7) C h dX3_has_7
theorem c_X3_has (l : Launch) (b : Bw) (a1 : Int32) (S : St) : Ct l b yX3_has wsX3_has rmX3_has [.int a1] S mkI (f_X3_has a1 S) := Ct.of (by decide +kernel) rfl (Nat.le_of_ble_eq_true rfl) (fun X C hl hb r h => by
  subst hl; subst hb
  exact s_X3_has_b0 C a1 S h)
/-! StyleRows$Rules.countingFor(II)I -/
set_option maxRecDepth 100000 in
set_option maxHeartbeats 4000000 in
theorem s_X8_countingFor_b0 {X : MC} (C : Cx X cX8_countingFor RX8 wsX8_countingFor 3 rmX8_countingFor (some .int)) (a1 : Int32) (a2 : Int32) (S : St) {r0 : Int32 × St} (h : f_X8_countingFor_b0 a1 a2 S = some r0) : G X (QM mkI X r0) S 0 [(0, .ref (ad X 6)), (1, .int a1), (2, .int a2)] [] := by
  unfold f_X8_countingFor_b0 at h
  refine g_aload_n (pc := 0) C dX8_countingFor_0 rfl 0 rfl ?_
  refine g_get (pc := 1) C 6 (w_6 _ _) rfl 1 (Nat.le_of_ble_eq_true rfl) in_X8_X8_countingFor k18_X8_countingFor rfl dX8_countingFor_1 ?_
  refine g_iload_n (pc := 4) C dX8_countingFor_4 rfl 1 rfl ?_
  refine g_bipush (pc := 5) (v := 13) C dX8_countingFor_5 (by decide) ?_
  refine g_imul (pc := 7) C dX8_countingFor_7 ?_
  refine g_iload_n (pc := 8) C dX8_countingFor_8 rfl 2 rfl ?_
  refine g_iadd (pc := 9) C dX8_countingFor_9 ?_
  refine g_iald (pc := 10) C 30 (w_30 _ _) h dX8_countingFor_10 (fun h => ?_)
  exact g_iret (pc := 11) C h dX8_countingFor_11
theorem c_X8_countingFor (l : Launch) (b : Bw) (a1 : Int32) (a2 : Int32) (S : St) : Ct l b yX8_countingFor wsX8_countingFor rmX8_countingFor [.ref (bad b 6), .int a1, .int a2] S mkI (f_X8_countingFor a1 a2 S) := Ct.of (by decide +kernel) rfl (Nat.le_of_ble_eq_true rfl) (fun X C hl hb r h => by
  subst hl; subst hb
  exact s_X8_countingFor_b0 C a1 a2 S h)
/-! StyleRows$Rules.numberFor(II)I -/
set_option maxRecDepth 100000 in
set_option maxHeartbeats 4000000 in
theorem s_X8_numberFor_b28 {X : MC} (C : Cx X cX8_numberFor RX8 wsX8_numberFor 4 rmX8_numberFor (some .int)) (w0 : Int32) (S : St) {r0 : Int32 × St} (h : f_X8_numberFor_b28 w0 S = some r0) : G X (QM mkI X r0) S 28 [] [.int w0] := by
  unfold f_X8_numberFor_b28 at h
  exact g_iret (pc := 28) C h dX8_numberFor_28
set_option maxRecDepth 100000 in
set_option maxHeartbeats 4000000 in
theorem s_X8_numberFor_b0 {X : MC} (C : Cx X cX8_numberFor RX8 wsX8_numberFor 4 rmX8_numberFor (some .int)) (a1 : Int32) (a2 : Int32) (S : St) {r0 : Int32 × St} (h : f_X8_numberFor_b0 a1 a2 S = some r0) : G X (QM mkI X r0) S 0 [(0, .ref (ad X 6)), (1, .int a1), (2, .int a2)] [] := by
  unfold f_X8_numberFor_b0 at h
  refine g_aload_n (pc := 0) C dX8_numberFor_0 rfl 0 rfl ?_
  refine g_iload_n (pc := 1) C dX8_numberFor_1 rfl 1 rfl ?_
  refine g_iload_n (pc := 2) C dX8_numberFor_2 rfl 2 rfl ?_
  refine g_callV (pc := 3) C 6 (c_X8_countingFor (Xl X) (Xb X) a1 a2 S) gX8_numberFor_X8_countingFor rfl rfl rfl hd_X8_countingFor ⟨Nat.le_of_ble_eq_true rfl, Nat.le_of_ble_eq_true rfl⟩ (w_6 _ _) rfl rfl rfl (Nat.le_of_ble_eq_true rfl) dX8_numberFor_3 h (fun r2 S1 h => ?_)
  change G X _ S1 6 [(0, .ref (ad X 6)), (1, .int a1), (2, .int a2)] [.int r2]
  refine g_istore_n (pc := 6) C [(3, .int r2), (0, .ref (ad X 6)), (1, .int a1), (2, .int a2)] dX8_numberFor_6 rfl (Nat.le_of_ble_eq_true rfl) rfl ?_
  refine g_iload_n (pc := 7) C dX8_numberFor_7 rfl 0 rfl ?_
  refine g_iconst (pc := 8) (v := (-1)) C dX8_numberFor_8 (by decide) ?_
  refine g_icmp_ne (pc := 9) (tgt := 20) C h dX8_numberFor_9 (by decide) (fun h => ?_) (fun h => ?_)
  · refine g_aload_n (pc := 20) C dX8_numberFor_20 rfl 1 rfl ?_
    refine g_get (pc := 21) C 6 (w_6 _ _) rfl 0 (Nat.le_of_ble_eq_true rfl) in_X8_X8_numberFor k13_X8_numberFor rfl dX8_numberFor_21 ?_
    refine g_iconst (pc := 24) (v := 2) C dX8_numberFor_24 (by decide) ?_
    refine g_aaldc (pc := 25) (i := 2) C 25 28 (w_25 _ _) rfl rfl dX8_numberFor_25 ?_
    refine g_iload_n (pc := 26) C dX8_numberFor_26 rfl 0 rfl ?_
    refine g_iald (pc := 27) C 28 (w_28 _ _) h dX8_numberFor_27 (fun h => ?_)
    refine g_weak (lv1 := []) [] rfl ?_
    exact s_X8_numberFor_b28 C (rd S1 28 r2)  S1 h
  · refine g_getsN (pc := 12) C 0 (Nat.le_of_ble_eq_true rfl) nw_X8_41 dX8_numberFor_12 ?_
    refine g_iload_n (pc := 15) C dX8_numberFor_15 rfl 3 rfl ?_
    refine g_tld (pc := 16) C 0 (Nat.le_of_ble_eq_true rfl) h dX8_numberFor_16 (fun h => ?_)
    refine g_goto (pc := 17) (tgt := 28) C dX8_numberFor_17 (by decide) ?_
    refine g_weak (lv1 := []) [] rfl ?_
    exact s_X8_numberFor_b28 C (tbr 0 a2)  S1 h
theorem c_X8_numberFor (l : Launch) (b : Bw) (a1 : Int32) (a2 : Int32) (S : St) : Ct l b yX8_numberFor wsX8_numberFor rmX8_numberFor [.ref (bad b 6), .int a1, .int a2] S mkI (f_X8_numberFor a1 a2 S) := Ct.of (by decide +kernel) rfl (Nat.le_of_ble_eq_true rfl) (fun X C hl hb r h => by
  subst hl; subst hb
  exact s_X8_numberFor_b0 C a1 a2 S h)
/-! StyleRows.value(II)I -/
set_option maxRecDepth 100000 in
set_option maxHeartbeats 4000000 in
theorem s_X11_value_b29 {X : MC} (C : Cx X cX11_value RX11 wsX11_value 3 rmX11_value (some .int)) (w0 : Int32) (S : St) {r0 : Int32 × St} (h : f_X11_value_b29 w0 S = some r0) : G X (QM mkI X r0) S 29 [] [.int w0] := by
  unfold f_X11_value_b29 at h
  exact g_iret (pc := 29) C h dX11_value_29
set_option maxRecDepth 100000 in
set_option maxHeartbeats 4000000 in
theorem s_X11_value_b26 {X : MC} (C : Cx X cX11_value RX11 wsX11_value 3 rmX11_value (some .int)) (S : St) {r0 : Int32 × St} (h : f_X11_value_b26 S = some r0) : G X (QM mkI X r0) S 26 [] [] := by
  unfold f_X11_value_b26 at h
  refine g_sipush (pc := 26) (v := (-1001)) C dX11_value_26 (by decide) ?_
  refine g_weak (lv1 := []) [] rfl ?_
  exact s_X11_value_b29 C (-1001)  S h
set_option maxRecDepth 100000 in
set_option maxHeartbeats 4000000 in
theorem s_X11_value_b0 {X : MC} (C : Cx X cX11_value RX11 wsX11_value 3 rmX11_value (some .int)) (a1 : Int32) (a2 : Int32) (S : St) {r0 : Int32 × St} (h : f_X11_value_b0 a1 a2 S = some r0) : G X (QM mkI X r0) S 0 [(0, .ref (ad X 0)), (1, .int a1), (2, .int a2)] [] := by
  unfold f_X11_value_b0 at h
  refine g_iload_n (pc := 0) C dX11_value_0 rfl 1 rfl ?_
  refine g_callS (pc := 1) C (c_X11_isVoice (Xl X) (Xb X) a1 S) gX11_value_X11_isVoice rfl rfl rfl hd_X11_isVoice ⟨Nat.le_of_ble_eq_true rfl, Nat.le_of_ble_eq_true rfl⟩ rfl rfl (Nat.le_of_ble_eq_true rfl) dX11_value_1 h (fun r2 S1 h => ?_)
  change G X _ S1 4 [(0, .ref (ad X 0)), (1, .int a1), (2, .int a2)] [.int r2]
  refine g_if_eq (pc := 4) (tgt := 26) C h dX11_value_4 (by decide) (fun h => ?_) (fun h => ?_)
  · refine g_weak (lv1 := []) [] rfl ?_
    exact s_X11_value_b26 C   S1 h
  · refine g_iload_n (pc := 7) C dX11_value_7 rfl 2 rfl ?_
    refine g_callS (pc := 8) C (c_X3_has (Xl X) (Xb X) a2 S1) gX11_value_X3_has rfl rfl rfl hd_X3_has ⟨Nat.le_of_ble_eq_true rfl, Nat.le_of_ble_eq_true rfl⟩ rfl rfl (Nat.le_of_ble_eq_true rfl) dX11_value_8 h (fun r4 S3 h => ?_)
    change G X _ S3 11 [(0, .ref (ad X 0)), (1, .int a1), (2, .int a2)] [.int r4]
    refine g_if_eq (pc := 11) (tgt := 26) C h dX11_value_11 (by decide) (fun h => ?_) (fun h => ?_)
    · refine g_weak (lv1 := []) [] rfl ?_
      exact s_X11_value_b26 C   S3 h
    · refine g_aload_n (pc := 14) C dX11_value_14 rfl 0 rfl ?_
      refine g_get (pc := 15) C 0 (w_0 _ _) rfl 3 (Nat.le_of_ble_eq_true rfl) in_X11_X11_value k30_X11_value rfl dX11_value_15 ?_
      refine g_iload_n (pc := 18) C dX11_value_18 rfl 1 rfl ?_
      refine g_iload_n (pc := 19) C dX11_value_19 rfl 2 rfl ?_
      refine g_callV (pc := 20) C 6 (c_X8_numberFor (Xl X) (Xb X) a1 a2 S3) gX11_value_X8_numberFor rfl rfl rfl hd_X8_numberFor ⟨Nat.le_of_ble_eq_true rfl, Nat.le_of_ble_eq_true rfl⟩ (w_6 _ _) rfl rfl rfl (Nat.le_of_ble_eq_true rfl) dX11_value_20 h (fun r6 S5 h => ?_)
      change G X _ S5 23 [(0, .ref (ad X 0)), (1, .int a1), (2, .int a2)] [.int r6]
      refine g_goto (pc := 23) (tgt := 29) C dX11_value_23 (by decide) ?_
      refine g_weak (lv1 := []) [] rfl ?_
      exact s_X11_value_b29 C r6  S5 h
theorem c_X11_value (l : Launch) (b : Bw) (a1 : Int32) (a2 : Int32) (S : St) : Ct l b yX11_value wsX11_value rmX11_value [.ref (bad b 0), .int a1, .int a2] S mkI (f_X11_value a1 a2 S) := Ct.of (by decide +kernel) rfl (Nat.le_of_ble_eq_true rfl) (fun X C hl hb r h => by
  subst hl; subst hb
  exact s_X11_value_b0 C a1 a2 S h)
/-! StyleRows.why(II)I -/
set_option maxRecDepth 100000 in
set_option maxHeartbeats 4000000 in
theorem s_X11_why_b29 {X : MC} (C : Cx X cX11_why RX11 wsX11_why 3 rmX11_why (some .int)) (w0 : Int32) (S : St) {r0 : Int32 × St} (h : f_X11_why_b29 w0 S = some r0) : G X (QM mkI X r0) S 29 [] [.int w0] := by
  unfold f_X11_why_b29 at h
  exact g_iret (pc := 29) C h dX11_why_29
set_option maxRecDepth 100000 in
set_option maxHeartbeats 4000000 in
theorem s_X11_why_b26 {X : MC} (C : Cx X cX11_why RX11 wsX11_why 3 rmX11_why (some .int)) (S : St) {r0 : Int32 × St} (h : f_X11_why_b26 S = some r0) : G X (QM mkI X r0) S 26 [] [] := by
  unfold f_X11_why_b26 at h
  refine g_sipush (pc := 26) (v := (-1001)) C dX11_why_26 (by decide) ?_
  refine g_weak (lv1 := []) [] rfl ?_
  exact s_X11_why_b29 C (-1001)  S h
set_option maxRecDepth 100000 in
set_option maxHeartbeats 4000000 in
theorem s_X11_why_b0 {X : MC} (C : Cx X cX11_why RX11 wsX11_why 3 rmX11_why (some .int)) (a1 : Int32) (a2 : Int32) (S : St) {r0 : Int32 × St} (h : f_X11_why_b0 a1 a2 S = some r0) : G X (QM mkI X r0) S 0 [(0, .ref (ad X 0)), (1, .int a1), (2, .int a2)] [] := by
  unfold f_X11_why_b0 at h
  refine g_iload_n (pc := 0) C dX11_why_0 rfl 1 rfl ?_
  refine g_callS (pc := 1) C (c_X11_isVoice (Xl X) (Xb X) a1 S) gX11_why_X11_isVoice rfl rfl rfl hd_X11_isVoice ⟨Nat.le_of_ble_eq_true rfl, Nat.le_of_ble_eq_true rfl⟩ rfl rfl (Nat.le_of_ble_eq_true rfl) dX11_why_1 h (fun r2 S1 h => ?_)
  change G X _ S1 4 [(0, .ref (ad X 0)), (1, .int a1), (2, .int a2)] [.int r2]
  refine g_if_eq (pc := 4) (tgt := 26) C h dX11_why_4 (by decide) (fun h => ?_) (fun h => ?_)
  · refine g_weak (lv1 := []) [] rfl ?_
    exact s_X11_why_b26 C   S1 h
  · refine g_iload_n (pc := 7) C dX11_why_7 rfl 2 rfl ?_
    refine g_callS (pc := 8) C (c_X3_has (Xl X) (Xb X) a2 S1) gX11_why_X3_has rfl rfl rfl hd_X3_has ⟨Nat.le_of_ble_eq_true rfl, Nat.le_of_ble_eq_true rfl⟩ rfl rfl (Nat.le_of_ble_eq_true rfl) dX11_why_8 h (fun r4 S3 h => ?_)
    change G X _ S3 11 [(0, .ref (ad X 0)), (1, .int a1), (2, .int a2)] [.int r4]
    refine g_if_eq (pc := 11) (tgt := 26) C h dX11_why_11 (by decide) (fun h => ?_) (fun h => ?_)
    · refine g_weak (lv1 := []) [] rfl ?_
      exact s_X11_why_b26 C   S3 h
    · refine g_aload_n (pc := 14) C dX11_why_14 rfl 0 rfl ?_
      refine g_get (pc := 15) C 0 (w_0 _ _) rfl 3 (Nat.le_of_ble_eq_true rfl) in_X11_X11_why k30_X11_why rfl dX11_why_15 ?_
      refine g_iload_n (pc := 18) C dX11_why_18 rfl 1 rfl ?_
      refine g_iload_n (pc := 19) C dX11_why_19 rfl 2 rfl ?_
      refine g_callV (pc := 20) C 6 (c_X8_countingFor (Xl X) (Xb X) a1 a2 S3) gX11_why_X8_countingFor rfl rfl rfl hd_X8_countingFor ⟨Nat.le_of_ble_eq_true rfl, Nat.le_of_ble_eq_true rfl⟩ (w_6 _ _) rfl rfl rfl (Nat.le_of_ble_eq_true rfl) dX11_why_20 h (fun r6 S5 h => ?_)
      change G X _ S5 23 [(0, .ref (ad X 0)), (1, .int a1), (2, .int a2)] [.int r6]
      refine g_goto (pc := 23) (tgt := 29) C dX11_why_23 (by decide) ?_
      refine g_weak (lv1 := []) [] rfl ?_
      exact s_X11_why_b29 C r6  S5 h
theorem c_X11_why (l : Launch) (b : Bw) (a1 : Int32) (a2 : Int32) (S : St) : Ct l b yX11_why wsX11_why rmX11_why [.ref (bad b 0), .int a1, .int a2] S mkI (f_X11_why a1 a2 S) := Ct.of (by decide +kernel) rfl (Nat.le_of_ble_eq_true rfl) (fun X C hl hb r h => by
  subst hl; subst hb
  exact s_X11_why_b0 C a1 a2 S h)
/-! StyleRows$Events.clear()V -/
set_option maxRecDepth 100000 in
set_option maxHeartbeats 4000000 in
theorem s_X1_clear_b0 {X : MC} (C : Cx X cX1_clear RX1 wsX1_clear 1 rmX1_clear none) (S : St) {r0 : Unit × St} (h : f_X1_clear_b0 S = some r0) : G X (QM mkV X r0) S 0 [(0, .ref (ad X 9))] [] := by
  unfold f_X1_clear_b0 at h
  refine g_aload_n (pc := 0) C dX1_clear_0 rfl 0 rfl ?_
  refine g_iconst (pc := 1) (v := 0) C dX1_clear_1 (by decide) ?_
  refine g_put (pc := 2) C 9 (w_9 _ _) rfl 1 (Nat.le_of_ble_eq_true rfl) in_X1_X1_clear tyX1_ok nmX1 k16_X1_clear rfl rfl rfl (Nat.le_of_ble_eq_true rfl) (ws_9_1 _ _ _) dX1_clear_2 h (fun S1 h => ?_)
  refine g_aload_n (pc := 5) C dX1_clear_5 rfl 0 rfl ?_
  refine g_iconst (pc := 6) (v := 0) C dX1_clear_6 (by decide) ?_
  refine g_put (pc := 7) C 9 (w_9 _ _) rfl 2 (Nat.le_of_ble_eq_true rfl) in_X1_X1_clear tyX1_ok nmX1 k20_X1_clear rfl rfl rfl (Nat.le_of_ble_eq_true rfl) (ws_9_2 _ _ _) dX1_clear_7 h (fun S2 h => ?_)
  exact g_vret (pc := 10) C h dX1_clear_10
theorem c_X1_clear (l : Launch) (b : Bw) (S : St) : Ct l b yX1_clear wsX1_clear rmX1_clear [.ref (bad b 9)] S mkV (f_X1_clear S) := Ct.of (by decide +kernel) rfl (Nat.le_of_ble_eq_true rfl) (fun X C hl hb r h => by
  subst hl; subst hb
  exact s_X1_clear_b0 C S h)
/-! StyleRows$Performer.takeNote(LStyleRows$Notes;I)V -/
set_option maxRecDepth 100000 in
set_option maxHeartbeats 4000000 in
theorem s_X6_takeNote_b0 {X : MC} (C : Cx X cX6_takeNote RX6 wsX6_takeNote 3 rmX6_takeNote none) (a2 : Int32) (S : St) {r0 : Unit × St} (h : f_X6_takeNote_b0 a2 S = some r0) : G X (QM mkV X r0) S 0 [(0, .ref (ad X 8)), (1, .ref (ad X 2)), (2, .int a2)] [] := by
  unfold f_X6_takeNote_b0 at h
  refine g_aload_n (pc := 0) C dX6_takeNote_0 rfl 0 rfl ?_
  refine g_iload_n (pc := 1) C dX6_takeNote_1 rfl 2 rfl ?_
  refine g_put (pc := 2) C 8 (w_8 _ _) rfl 1 (Nat.le_of_ble_eq_true rfl) in_X6_X6_takeNote tyX6_ok nmX6 k71_X6_takeNote rfl rfl rfl (Nat.le_of_ble_eq_true rfl) (ws_8_1 _ _ _) dX6_takeNote_2 h (fun S1 h => ?_)
  refine g_aload_n (pc := 5) C dX6_takeNote_5 rfl 0 rfl ?_
  refine g_aload_n (pc := 6) C dX6_takeNote_6 rfl 1 rfl ?_
  refine g_getN (pc := 7) C 2 (w_2 _ _) rfl 0 (Nat.le_of_ble_eq_true rfl) in_X4_X6_takeNote nw_X6_74 rfl dX6_takeNote_7 ?_
  refine g_iload_n (pc := 10) C dX6_takeNote_10 rfl 2 rfl ?_
  refine g_iald (pc := 11) C 13 (w_13 _ _) h dX6_takeNote_11 (fun h => ?_)
  refine g_put (pc := 12) C 8 (w_8 _ _) rfl 2 (Nat.le_of_ble_eq_true rfl) in_X6_X6_takeNote tyX6_ok nmX6 k77_X6_takeNote rfl rfl rfl (Nat.le_of_ble_eq_true rfl) (ws_8_2 _ _ _) dX6_takeNote_12 h (fun S2 h => ?_)
  refine g_aload_n (pc := 15) C dX6_takeNote_15 rfl 0 rfl ?_
  refine g_aload_n (pc := 16) C dX6_takeNote_16 rfl 1 rfl ?_
  refine g_getN (pc := 17) C 2 (w_2 _ _) rfl 3 (Nat.le_of_ble_eq_true rfl) in_X4_X6_takeNote nw_X6_80 rfl dX6_takeNote_17 ?_
  refine g_iload_n (pc := 20) C dX6_takeNote_20 rfl 2 rfl ?_
  refine g_iald (pc := 21) C 16 (w_16 _ _) h dX6_takeNote_21 (fun h => ?_)
  refine g_put (pc := 22) C 8 (w_8 _ _) rfl 3 (Nat.le_of_ble_eq_true rfl) in_X6_X6_takeNote tyX6_ok nmX6 k83_X6_takeNote rfl rfl rfl (Nat.le_of_ble_eq_true rfl) (ws_8_3 _ _ _) dX6_takeNote_22 h (fun S3 h => ?_)
  refine g_aload_n (pc := 25) C dX6_takeNote_25 rfl 0 rfl ?_
  refine g_aload_n (pc := 26) C dX6_takeNote_26 rfl 1 rfl ?_
  refine g_getN (pc := 27) C 2 (w_2 _ _) rfl 4 (Nat.le_of_ble_eq_true rfl) in_X4_X6_takeNote nw_X6_86 rfl dX6_takeNote_27 ?_
  refine g_iload_n (pc := 30) C dX6_takeNote_30 rfl 2 rfl ?_
  refine g_iald (pc := 31) C 17 (w_17 _ _) h dX6_takeNote_31 (fun h => ?_)
  refine g_put (pc := 32) C 8 (w_8 _ _) rfl 4 (Nat.le_of_ble_eq_true rfl) in_X6_X6_takeNote tyX6_ok nmX6 k89_X6_takeNote rfl rfl rfl (Nat.le_of_ble_eq_true rfl) (ws_8_4 _ _ _) dX6_takeNote_32 h (fun S4 h => ?_)
  exact g_vret (pc := 35) C h dX6_takeNote_35
theorem c_X6_takeNote (l : Launch) (b : Bw) (a2 : Int32) (S : St) : Ct l b yX6_takeNote wsX6_takeNote rmX6_takeNote [.ref (bad b 8), .ref (bad b 2), .int a2] S mkV (f_X6_takeNote a2 S) := Ct.of (by decide +kernel) rfl (Nat.le_of_ble_eq_true rfl) (fun X C hl hb r h => by
  subst hl; subst hb
  exact s_X6_takeNote_b0 C a2 S h)
/-! StyleRows$Performer.isMarked(I)Z -/
set_option maxRecDepth 100000 in
set_option maxHeartbeats 4000000 in
theorem s_X6_isMarked_b14 {X : MC} (C : Cx X cX6_isMarked RX6 wsX6_isMarked 2 rmX6_isMarked (some .boolean)) (w0 : Int32) (S : St) {r0 : Int32 × St} (h : f_X6_isMarked_b14 w0 S = some r0) : G X (QM mkI X r0) S 14 [] [.int w0] := by
  unfold f_X6_isMarked_b14 at h
  exact g_zret (pc := 14) C h dX6_isMarked_14
set_option maxRecDepth 100000 in
set_option maxHeartbeats 4000000 in
theorem s_X6_isMarked_b0 {X : MC} (C : Cx X cX6_isMarked RX6 wsX6_isMarked 2 rmX6_isMarked (some .boolean)) (a1 : Int32) (S : St) {r0 : Int32 × St} (h : f_X6_isMarked_b0 a1 S = some r0) : G X (QM mkI X r0) S 0 [(0, .ref (ad X 8)), (1, .int a1)] [] := by
  unfold f_X6_isMarked_b0 at h
  refine g_aload_n (pc := 0) C dX6_isMarked_0 rfl 0 rfl ?_
  refine g_get (pc := 1) C 8 (w_8 _ _) rfl 4 (Nat.le_of_ble_eq_true rfl) in_X6_X6_isMarked k89_X6_isMarked rfl dX6_isMarked_1 ?_
  refine g_iload_n (pc := 4) C dX6_isMarked_4 rfl 1 rfl ?_
  refine g_iand (pc := 5) C dX6_isMarked_5 ?_
  refine g_if_eq (pc := 6) (tgt := 13) C h dX6_isMarked_6 (by decide) (fun h => ?_) (fun h => ?_)
  · refine g_iconst (pc := 13) (v := 0) C dX6_isMarked_13 (by decide) ?_
    refine g_weak (lv1 := []) [] rfl ?_
    exact s_X6_isMarked_b14 C 0  S h
  · refine g_iconst (pc := 9) (v := 1) C dX6_isMarked_9 (by decide) ?_
    refine g_goto (pc := 10) (tgt := 14) C dX6_isMarked_10 (by decide) ?_
    refine g_weak (lv1 := []) [] rfl ?_
    exact s_X6_isMarked_b14 C 1  S h
theorem c_X6_isMarked (l : Launch) (b : Bw) (a1 : Int32) (S : St) : Ct l b yX6_isMarked wsX6_isMarked rmX6_isMarked [.ref (bad b 8), .int a1] S mkI (f_X6_isMarked a1 S) := Ct.of (by decide +kernel) rfl (Nat.le_of_ble_eq_true rfl) (fun X C hl hb r h => by
  subst hl; subst hb
  exact s_X6_isMarked_b0 C a1 S h)
/-! StyleRows$Performer.longOf(ILStyleRows$Rules;)I -/
set_option maxRecDepth 100000 in
set_option maxHeartbeats 4000000 in
theorem s_X6_longOf_b25 {X : MC} (C : Cx X cX6_longOf RX6 wsX6_longOf 6 rmX6_longOf (some .int)) (v1 : Int32) (w0 : Int32) (S : St) {r0 : Int32 × St} (h : f_X6_longOf_b25 v1 w0 S = some r0) : G X (QM mkI X r0) S 25 [(0, .ref (ad X 8)), (1, .int v1), (2, .ref (ad X 6))] [.int w0] := by
  unfold f_X6_longOf_b25 at h
  refine g_istore_n (pc := 25) C [(3, .int w0), (0, .ref (ad X 8)), (1, .int v1), (2, .ref (ad X 6))] dX6_longOf_25 rfl (Nat.le_of_ble_eq_true rfl) rfl ?_
  refine g_aload_n (pc := 26) C dX6_longOf_26 rfl 3 rfl ?_
  refine g_aload_n (pc := 27) C dX6_longOf_27 rfl 1 rfl ?_
  refine g_get (pc := 28) C 8 (w_8 _ _) rfl 2 (Nat.le_of_ble_eq_true rfl) in_X6_X6_longOf k77_X6_longOf rfl dX6_longOf_28 ?_
  refine g_iload_n (pc := 31) C dX6_longOf_31 rfl 0 rfl ?_
  refine g_callV (pc := 32) C 6 (c_X8_numberFor (Xl X) (Xb X) (gI S 13) w0 S) gX6_longOf_X8_numberFor rfl rfl rfl hd_X8_numberFor ⟨Nat.le_of_ble_eq_true rfl, Nat.le_of_ble_eq_true rfl⟩ (w_6 _ _) rfl rfl rfl (Nat.le_of_ble_eq_true rfl) dX6_longOf_32 h (fun r6 S5 h => ?_)
  change G X _ S5 35 [(3, .int w0), (0, .ref (ad X 8)), (1, .int v1), (2, .ref (ad X 6))] [.int r6]
  refine g_istore (pc := 35) C [(4, .int r6), (3, .int w0), (0, .ref (ad X 8)), (1, .int v1), (2, .ref (ad X 6))] dX6_longOf_35 (Nat.le_of_ble_eq_true rfl) rfl ?_
  refine g_aload_n (pc := 37) C dX6_longOf_37 rfl 4 rfl ?_
  refine g_aload_n (pc := 38) C dX6_longOf_38 rfl 2 rfl ?_
  refine g_get (pc := 39) C 8 (w_8 _ _) rfl 2 (Nat.le_of_ble_eq_true rfl) in_X6_X6_longOf k77_X6_longOf rfl dX6_longOf_39 ?_
  refine g_iconst (pc := 42) (v := 3) C dX6_longOf_42 (by decide) ?_
  refine g_callV (pc := 43) C 6 (c_X8_numberFor (Xl X) (Xb X) (gI S5 13) 3 S5) gX6_longOf_X8_numberFor rfl rfl rfl hd_X8_numberFor ⟨Nat.le_of_ble_eq_true rfl, Nat.le_of_ble_eq_true rfl⟩ (w_6 _ _) rfl rfl rfl (Nat.le_of_ble_eq_true rfl) dX6_longOf_43 h (fun r8 S7 h => ?_)
  change G X _ S7 46 [(4, .int r6), (3, .int w0), (0, .ref (ad X 8)), (1, .int v1), (2, .ref (ad X 6))] [.int r8]
  refine g_iload_n (pc := 46) C dX6_longOf_46 rfl 3 rfl ?_
  refine g_mmin (pc := 47) C k103_X6_longOf kstmin_X6_longOf kini_X6_longOf kcomin_X6_longOf (Nat.le_of_ble_eq_true rfl) (Nat.le_of_ble_eq_true rfl) dX6_longOf_47 ?_
  refine g_leti h (fun x9 h => ?_)
  refine g_istore (pc := 50) C [(5, .int x9), (4, .int r6), (3, .int w0), (0, .ref (ad X 8)), (1, .int v1), (2, .ref (ad X 6))] dX6_longOf_50 (Nat.le_of_ble_eq_true rfl) rfl ?_
  refine g_iload (pc := 52) C dX6_longOf_52 0 rfl ?_
  refine g_iload_n (pc := 54) C dX6_longOf_54 rfl 4 rfl ?_
  refine g_iload (pc := 55) C dX6_longOf_55 1 rfl ?_
  refine g_imul (pc := 57) C dX6_longOf_57 ?_
  refine g_bipush (pc := 58) (v := 100) C dX6_longOf_58 (by decide) ?_
  refine g_idiv (pc := 60) C h dX6_longOf_60 (fun h => ?_)
  refine g_mmax (pc := 61) C k108_X6_longOf kstmax_X6_longOf kini_X6_longOf kcomax_X6_longOf (Nat.le_of_ble_eq_true rfl) (Nat.le_of_ble_eq_true rfl) dX6_longOf_61 ?_
  exact g_iret (pc := 64) C h dX6_longOf_64
set_option maxRecDepth 100000 in
set_option maxHeartbeats 4000000 in
theorem s_X6_longOf_b0 {X : MC} (C : Cx X cX6_longOf RX6 wsX6_longOf 6 rmX6_longOf (some .int)) (a1 : Int32) (S : St) {r0 : Int32 × St} (h : f_X6_longOf_b0 a1 S = some r0) : G X (QM mkI X r0) S 0 [(0, .ref (ad X 8)), (1, .int a1), (2, .ref (ad X 6))] [] := by
  unfold f_X6_longOf_b0 at h
  refine g_aload_n (pc := 0) C dX6_longOf_0 rfl 0 rfl ?_
  refine g_iconst (pc := 1) (v := 1) C dX6_longOf_1 (by decide) ?_
  refine g_callV (pc := 2) C 8 (c_X6_isMarked (Xl X) (Xb X) 1 S) gX6_longOf_X6_isMarked rfl rfl rfl hd_X6_isMarked ⟨Nat.le_of_ble_eq_true rfl, Nat.le_of_ble_eq_true rfl⟩ (w_8 _ _) rfl rfl rfl (Nat.le_of_ble_eq_true rfl) dX6_longOf_2 h (fun r2 S1 h => ?_)
  change G X _ S1 5 [(0, .ref (ad X 8)), (1, .int a1), (2, .ref (ad X 6))] [.int r2]
  refine g_if_eq (pc := 5) (tgt := 12) C h dX6_longOf_5 (by decide) (fun h => ?_) (fun h => ?_)
  · refine g_aload_n (pc := 12) C dX6_longOf_12 rfl 0 rfl ?_
    refine g_iconst (pc := 13) (v := 2) C dX6_longOf_13 (by decide) ?_
    refine g_callV (pc := 14) C 8 (c_X6_isMarked (Xl X) (Xb X) 2 S1) gX6_longOf_X6_isMarked rfl rfl rfl hd_X6_isMarked ⟨Nat.le_of_ble_eq_true rfl, Nat.le_of_ble_eq_true rfl⟩ (w_8 _ _) rfl rfl rfl (Nat.le_of_ble_eq_true rfl) dX6_longOf_14 h (fun r4 S3 h => ?_)
    change G X _ S3 17 [(0, .ref (ad X 8)), (1, .int a1), (2, .ref (ad X 6))] [.int r4]
    refine g_if_eq (pc := 17) (tgt := 24) C h dX6_longOf_17 (by decide) (fun h => ?_) (fun h => ?_)
    · refine g_iconst (pc := 24) (v := 1) C dX6_longOf_24 (by decide) ?_
      refine g_weak (lv1 := [(0, .ref (ad X 8)), (1, .int a1), (2, .ref (ad X 6))]) [0, 1, 2] rfl ?_
      exact s_X6_longOf_b25 C a1 1  S3 h
    · refine g_iconst (pc := 20) (v := 2) C dX6_longOf_20 (by decide) ?_
      refine g_goto (pc := 21) (tgt := 25) C dX6_longOf_21 (by decide) ?_
      refine g_weak (lv1 := [(0, .ref (ad X 8)), (1, .int a1), (2, .ref (ad X 6))]) [0, 1, 2] rfl ?_
      exact s_X6_longOf_b25 C a1 2  S3 h
  · refine g_iconst (pc := 8) (v := 0) C dX6_longOf_8 (by decide) ?_
    refine g_goto (pc := 9) (tgt := 25) C dX6_longOf_9 (by decide) ?_
    refine g_weak (lv1 := [(0, .ref (ad X 8)), (1, .int a1), (2, .ref (ad X 6))]) [0, 1, 2] rfl ?_
    exact s_X6_longOf_b25 C a1 0  S1 h
theorem c_X6_longOf (l : Launch) (b : Bw) (a1 : Int32) (S : St) : Ct l b yX6_longOf wsX6_longOf rmX6_longOf [.ref (bad b 8), .int a1, .ref (bad b 6)] S mkI (f_X6_longOf a1 S) := Ct.of (by decide +kernel) rfl (Nat.le_of_ble_eq_true rfl) (fun X C hl hb r h => by
  subst hl; subst hb
  exact s_X6_longOf_b0 C a1 S h)
/-! StyleRows$Score.isMultiple(II)Z -/
set_option maxRecDepth 100000 in
set_option maxHeartbeats 4000000 in
theorem s_X9_isMultiple_b15 {X : MC} (C : Cx X cX9_isMultiple RX9 wsX9_isMultiple 2 rmX9_isMultiple (some .boolean)) (w0 : Int32) (S : St) {r0 : Int32 × St} (h : f_X9_isMultiple_b15 w0 S = some r0) : G X (QM mkI X r0) S 15 [] [.int w0] := by
  unfold f_X9_isMultiple_b15 at h
  exact g_zret (pc := 15) C h dX9_isMultiple_15
set_option maxRecDepth 100000 in
set_option maxHeartbeats 4000000 in
theorem s_X9_isMultiple_b14 {X : MC} (C : Cx X cX9_isMultiple RX9 wsX9_isMultiple 2 rmX9_isMultiple (some .boolean)) (S : St) {r0 : Int32 × St} (h : f_X9_isMultiple_b14 S = some r0) : G X (QM mkI X r0) S 14 [] [] := by
  unfold f_X9_isMultiple_b14 at h
  refine g_iconst (pc := 14) (v := 0) C dX9_isMultiple_14 (by decide) ?_
  refine g_weak (lv1 := []) [] rfl ?_
  exact s_X9_isMultiple_b15 C 0  S h
set_option maxRecDepth 100000 in
set_option maxHeartbeats 4000000 in
theorem s_X9_isMultiple_b0 {X : MC} (C : Cx X cX9_isMultiple RX9 wsX9_isMultiple 2 rmX9_isMultiple (some .boolean)) (a1 : Int32) (a2 : Int32) (S : St) {r0 : Int32 × St} (h : f_X9_isMultiple_b0 a1 a2 S = some r0) : G X (QM mkI X r0) S 0 [(0, .int a1), (1, .int a2)] [] := by
  unfold f_X9_isMultiple_b0 at h
  refine g_iload_n (pc := 0) C dX9_isMultiple_0 rfl 1 rfl ?_
  refine g_if_le (pc := 1) (tgt := 14) C h dX9_isMultiple_1 (by decide) (fun h => ?_) (fun h => ?_)
  · refine g_weak (lv1 := []) [] rfl ?_
    exact s_X9_isMultiple_b14 C   S h
  · refine g_iload_n (pc := 4) C dX9_isMultiple_4 rfl 0 rfl ?_
    refine g_iload_n (pc := 5) C dX9_isMultiple_5 rfl 1 rfl ?_
    refine g_irem (pc := 6) C h dX9_isMultiple_6 (fun h => ?_)
    refine g_if_ne (pc := 7) (tgt := 14) C h dX9_isMultiple_7 (by decide) (fun h => ?_) (fun h => ?_)
    · refine g_weak (lv1 := []) [] rfl ?_
      exact s_X9_isMultiple_b14 C   S h
    · refine g_iconst (pc := 10) (v := 1) C dX9_isMultiple_10 (by decide) ?_
      refine g_goto (pc := 11) (tgt := 15) C dX9_isMultiple_11 (by decide) ?_
      refine g_weak (lv1 := []) [] rfl ?_
      exact s_X9_isMultiple_b15 C 1  S h
theorem c_X9_isMultiple (l : Launch) (b : Bw) (a1 : Int32) (a2 : Int32) (S : St) : Ct l b yX9_isMultiple wsX9_isMultiple rmX9_isMultiple [.int a1, .int a2] S mkI (f_X9_isMultiple a1 a2 S) := Ct.of (by decide +kernel) rfl (Nat.le_of_ble_eq_true rfl) (fun X C hl hb r h => by
  subst hl; subst hb
  exact s_X9_isMultiple_b0 C a1 a2 S h)
/-! StyleRows$Score.beginsBar(I)Z -/
set_option maxRecDepth 100000 in
set_option maxHeartbeats 4000000 in
theorem s_X9_beginsBar_b0 {X : MC} (C : Cx X cX9_beginsBar RX9 wsX9_beginsBar 2 rmX9_beginsBar (some .boolean)) (a1 : Int32) (S : St) {r0 : Int32 × St} (h : f_X9_beginsBar_b0 a1 S = some r0) : G X (QM mkI X r0) S 0 [(0, .ref (ad X 1)), (1, .int a1)] [] := by
  unfold f_X9_beginsBar_b0 at h
  refine g_iload_n (pc := 0) C dX9_beginsBar_0 rfl 1 rfl ?_
  refine g_aload_n (pc := 1) C dX9_beginsBar_1 rfl 0 rfl ?_
  refine g_get (pc := 2) C 1 (w_1 _ _) rfl 3 (Nat.le_of_ble_eq_true rfl) in_X9_X9_beginsBar k30_X9_beginsBar rfl dX9_beginsBar_2 ?_
  refine g_aload_n (pc := 5) C dX9_beginsBar_5 rfl 0 rfl ?_
  refine g_get (pc := 6) C 1 (w_1 _ _) rfl 4 (Nat.le_of_ble_eq_true rfl) in_X9_X9_beginsBar k34_X9_beginsBar rfl dX9_beginsBar_6 ?_
  refine g_imul (pc := 9) C dX9_beginsBar_9 ?_
  refine g_callS (pc := 10) C (c_X9_isMultiple (Xl X) (Xb X) a1 ((gI S 0) * (gI S 1)) S) gX9_beginsBar_X9_isMultiple rfl rfl rfl hd_X9_isMultiple ⟨Nat.le_of_ble_eq_true rfl, Nat.le_of_ble_eq_true rfl⟩ rfl rfl (Nat.le_of_ble_eq_true rfl) dX9_beginsBar_10 h (fun r2 S1 h => ?_)
  change G X _ S1 13 [(0, .ref (ad X 1)), (1, .int a1)] [.int r2]
  exact g_zret (pc := 13) C h dX9_beginsBar_13
theorem c_X9_beginsBar (l : Launch) (b : Bw) (a1 : Int32) (S : St) : Ct l b yX9_beginsBar wsX9_beginsBar rmX9_beginsBar [.ref (bad b 1), .int a1] S mkI (f_X9_beginsBar a1 S) := Ct.of (by decide +kernel) rfl (Nat.le_of_ble_eq_true rfl) (fun X C hl hb r h => by
  subst hl; subst hb
  exact s_X9_beginsBar_b0 C a1 S h)
/-! StyleRows$Score.beginsBeat(I)Z -/
set_option maxRecDepth 100000 in
set_option maxHeartbeats 4000000 in
theorem s_X9_beginsBeat_b0 {X : MC} (C : Cx X cX9_beginsBeat RX9 wsX9_beginsBeat 2 rmX9_beginsBeat (some .boolean)) (a1 : Int32) (S : St) {r0 : Int32 × St} (h : f_X9_beginsBeat_b0 a1 S = some r0) : G X (QM mkI X r0) S 0 [(0, .ref (ad X 1)), (1, .int a1)] [] := by
  unfold f_X9_beginsBeat_b0 at h
  refine g_iload_n (pc := 0) C dX9_beginsBeat_0 rfl 1 rfl ?_
  refine g_aload_n (pc := 1) C dX9_beginsBeat_1 rfl 0 rfl ?_
  refine g_get (pc := 2) C 1 (w_1 _ _) rfl 4 (Nat.le_of_ble_eq_true rfl) in_X9_X9_beginsBeat k34_X9_beginsBeat rfl dX9_beginsBeat_2 ?_
  refine g_callS (pc := 5) C (c_X9_isMultiple (Xl X) (Xb X) a1 (gI S 1) S) gX9_beginsBeat_X9_isMultiple rfl rfl rfl hd_X9_isMultiple ⟨Nat.le_of_ble_eq_true rfl, Nat.le_of_ble_eq_true rfl⟩ rfl rfl (Nat.le_of_ble_eq_true rfl) dX9_beginsBeat_5 h (fun r2 S1 h => ?_)
  change G X _ S1 8 [(0, .ref (ad X 1)), (1, .int a1)] [.int r2]
  exact g_zret (pc := 8) C h dX9_beginsBeat_8
theorem c_X9_beginsBeat (l : Launch) (b : Bw) (a1 : Int32) (S : St) : Ct l b yX9_beginsBeat wsX9_beginsBeat rmX9_beginsBeat [.ref (bad b 1), .int a1] S mkI (f_X9_beginsBeat a1 S) := Ct.of (by decide +kernel) rfl (Nat.le_of_ble_eq_true rfl) (fun X C hl hb r h => by
  subst hl; subst hb
  exact s_X9_beginsBeat_b0 C a1 S h)
/-! StyleRows$Performer.loudOf(LStyleRows$Score;ILStyleRows$Rules;)I -/
set_option maxRecDepth 100000 in
set_option maxHeartbeats 4000000 in
theorem s_X6_loudOf_b80 {X : MC} (C : Cx X cX6_loudOf RX6 wsX6_loudOf 5 rmX6_loudOf (some .int)) (v4 : Int32) (S : St) {r0 : Int32 × St} (h : f_X6_loudOf_b80 v4 S = some r0) : G X (QM mkI X r0) S 80 [(4, .int v4)] [] := by
  unfold f_X6_loudOf_b80 at h
  refine g_iconst (pc := 80) (v := 1) C dX6_loudOf_80 (by decide) ?_
  refine g_bipush (pc := 81) (v := 127) C dX6_loudOf_81 (by decide) ?_
  refine g_iload (pc := 83) C dX6_loudOf_83 0 rfl ?_
  refine g_mmin (pc := 85) C k103_X6_loudOf kstmin_X6_loudOf kini_X6_loudOf kcomin_X6_loudOf (Nat.le_of_ble_eq_true rfl) (Nat.le_of_ble_eq_true rfl) dX6_loudOf_85 ?_
  refine g_mmax (pc := 88) C k108_X6_loudOf kstmax_X6_loudOf kini_X6_loudOf kcomax_X6_loudOf (Nat.le_of_ble_eq_true rfl) (Nat.le_of_ble_eq_true rfl) dX6_loudOf_88 ?_
  exact g_iret (pc := 91) C h dX6_loudOf_91
set_option maxRecDepth 100000 in
set_option maxHeartbeats 4000000 in
theorem s_X6_loudOf_b32 {X : MC} (C : Cx X cX6_loudOf RX6 wsX6_loudOf 5 rmX6_loudOf (some .int)) (v2 : Int32) (v4 : Int32) (S : St) {r0 : Int32 × St} (h : f_X6_loudOf_b32 v2 v4 S = some r0) : G X (QM mkI X r0) S 32 [(0, .ref (ad X 8)), (1, .ref (ad X 1)), (2, .int v2), (3, .ref (ad X 6)), (4, .int v4)] [] := by
  unfold f_X6_loudOf_b32 at h
  refine g_aload_n (pc := 32) C dX6_loudOf_32 rfl 1 rfl ?_
  refine g_iload_n (pc := 33) C dX6_loudOf_33 rfl 2 rfl ?_
  refine g_callV (pc := 34) C 1 (c_X9_beginsBar (Xl X) (Xb X) v2 S) gX6_loudOf_X9_beginsBar rfl rfl rfl hd_X9_beginsBar ⟨Nat.le_of_ble_eq_true rfl, Nat.le_of_ble_eq_true rfl⟩ (w_1 _ _) rfl rfl rfl (Nat.le_of_ble_eq_true rfl) dX6_loudOf_34 h (fun r6 S5 h => ?_)
  change G X _ S5 37 [(0, .ref (ad X 8)), (1, .ref (ad X 1)), (2, .int v2), (3, .ref (ad X 6)), (4, .int v4)] [.int r6]
  refine g_if_eq (pc := 37) (tgt := 57) C h dX6_loudOf_37 (by decide) (fun h => ?_) (fun h => ?_)
  · refine g_aload_n (pc := 57) C dX6_loudOf_57 rfl 1 rfl ?_
    refine g_iload_n (pc := 58) C dX6_loudOf_58 rfl 2 rfl ?_
    refine g_callV (pc := 59) C 1 (c_X9_beginsBeat (Xl X) (Xb X) v2 S5) gX6_loudOf_X9_beginsBeat rfl rfl rfl hd_X9_beginsBeat ⟨Nat.le_of_ble_eq_true rfl, Nat.le_of_ble_eq_true rfl⟩ (w_1 _ _) rfl rfl rfl (Nat.le_of_ble_eq_true rfl) dX6_loudOf_59 h (fun r8 S7 h => ?_)
    change G X _ S7 62 [(0, .ref (ad X 8)), (1, .ref (ad X 1)), (2, .int v2), (3, .ref (ad X 6)), (4, .int v4)] [.int r8]
    refine g_if_eq (pc := 62) (tgt := 80) C h dX6_loudOf_62 (by decide) (fun h => ?_) (fun h => ?_)
    · refine g_weak (lv1 := [(4, .int v4)]) [4] rfl ?_
      exact s_X6_loudOf_b80 C v4  S7 h
    · refine g_iload (pc := 65) C dX6_loudOf_65 4 rfl ?_
      refine g_aload_n (pc := 67) C dX6_loudOf_67 rfl 3 rfl ?_
      refine g_aload_n (pc := 68) C dX6_loudOf_68 rfl 0 rfl ?_
      refine g_get (pc := 69) C 8 (w_8 _ _) rfl 2 (Nat.le_of_ble_eq_true rfl) in_X6_X6_loudOf k77_X6_loudOf rfl dX6_loudOf_69 ?_
      refine g_bipush (pc := 72) (v := 6) C dX6_loudOf_72 (by decide) ?_
      refine g_callV (pc := 74) C 6 (c_X8_numberFor (Xl X) (Xb X) (gI S7 13) 6 S7) gX6_loudOf_X8_numberFor rfl rfl rfl hd_X8_numberFor ⟨Nat.le_of_ble_eq_true rfl, Nat.le_of_ble_eq_true rfl⟩ (w_6 _ _) rfl rfl rfl (Nat.le_of_ble_eq_true rfl) dX6_loudOf_74 h (fun r10 S9 h => ?_)
      change G X _ S9 77 [(0, .ref (ad X 8)), (1, .ref (ad X 1)), (2, .int v2), (3, .ref (ad X 6)), (4, .int v4)] [.int r10, .int v4]
      refine g_iadd (pc := 77) C dX6_loudOf_77 ?_
      refine g_leti h (fun x11 h => ?_)
      refine g_istore (pc := 78) C [(4, .int x11), (0, .ref (ad X 8)), (1, .ref (ad X 1)), (2, .int v2), (3, .ref (ad X 6))] dX6_loudOf_78 (Nat.le_of_ble_eq_true rfl) rfl ?_
      refine g_weak (lv1 := [(4, .int x11)]) [0] rfl ?_
      exact s_X6_loudOf_b80 C x11  S9 h
  · refine g_iload (pc := 40) C dX6_loudOf_40 4 rfl ?_
    refine g_aload_n (pc := 42) C dX6_loudOf_42 rfl 3 rfl ?_
    refine g_aload_n (pc := 43) C dX6_loudOf_43 rfl 0 rfl ?_
    refine g_get (pc := 44) C 8 (w_8 _ _) rfl 2 (Nat.le_of_ble_eq_true rfl) in_X6_X6_loudOf k77_X6_loudOf rfl dX6_loudOf_44 ?_
    refine g_iconst (pc := 47) (v := 5) C dX6_loudOf_47 (by decide) ?_
    refine g_callV (pc := 48) C 6 (c_X8_numberFor (Xl X) (Xb X) (gI S5 13) 5 S5) gX6_loudOf_X8_numberFor rfl rfl rfl hd_X8_numberFor ⟨Nat.le_of_ble_eq_true rfl, Nat.le_of_ble_eq_true rfl⟩ (w_6 _ _) rfl rfl rfl (Nat.le_of_ble_eq_true rfl) dX6_loudOf_48 h (fun r13 S12 h => ?_)
    change G X _ S12 51 [(0, .ref (ad X 8)), (1, .ref (ad X 1)), (2, .int v2), (3, .ref (ad X 6)), (4, .int v4)] [.int r13, .int v4]
    refine g_iadd (pc := 51) C dX6_loudOf_51 ?_
    refine g_leti h (fun x14 h => ?_)
    refine g_istore (pc := 52) C [(4, .int x14), (0, .ref (ad X 8)), (1, .ref (ad X 1)), (2, .int v2), (3, .ref (ad X 6))] dX6_loudOf_52 (Nat.le_of_ble_eq_true rfl) rfl ?_
    refine g_goto (pc := 54) (tgt := 80) C dX6_loudOf_54 (by decide) ?_
    refine g_weak (lv1 := [(4, .int x14)]) [0] rfl ?_
    exact s_X6_loudOf_b80 C x14  S12 h
set_option maxRecDepth 100000 in
set_option maxHeartbeats 4000000 in
theorem s_X6_loudOf_b0 {X : MC} (C : Cx X cX6_loudOf RX6 wsX6_loudOf 5 rmX6_loudOf (some .int)) (a2 : Int32) (S : St) {r0 : Int32 × St} (h : f_X6_loudOf_b0 a2 S = some r0) : G X (QM mkI X r0) S 0 [(0, .ref (ad X 8)), (1, .ref (ad X 1)), (2, .int a2), (3, .ref (ad X 6))] [] := by
  unfold f_X6_loudOf_b0 at h
  refine g_aload_n (pc := 0) C dX6_loudOf_0 rfl 1 rfl ?_
  refine g_getN (pc := 1) C 1 (w_1 _ _) rfl 1 (Nat.le_of_ble_eq_true rfl) in_X9_X6_loudOf nw_X6_111 rfl dX6_loudOf_1 ?_
  refine g_iload_n (pc := 4) C dX6_loudOf_4 rfl 2 rfl ?_
  refine g_callV (pc := 5) C 3 (c_X2_at (Xl X) (Xb X) a2 S) gX6_loudOf_X2_at rfl rfl rfl hd_X2_at ⟨Nat.le_of_ble_eq_true rfl, Nat.le_of_ble_eq_true rfl⟩ (w_3 _ _) rfl rfl rfl (Nat.le_of_ble_eq_true rfl) dX6_loudOf_5 h (fun r2 S1 h => ?_)
  change G X _ S1 8 [(0, .ref (ad X 8)), (1, .ref (ad X 1)), (2, .int a2), (3, .ref (ad X 6))] [.int r2]
  refine g_istore (pc := 8) C [(4, .int r2), (0, .ref (ad X 8)), (1, .ref (ad X 1)), (2, .int a2), (3, .ref (ad X 6))] dX6_loudOf_8 (Nat.le_of_ble_eq_true rfl) rfl ?_
  refine g_aload_n (pc := 10) C dX6_loudOf_10 rfl 1 rfl ?_
  refine g_iconst (pc := 11) (v := 4) C dX6_loudOf_11 (by decide) ?_
  refine g_callV (pc := 12) C 8 (c_X6_isMarked (Xl X) (Xb X) 4 S1) gX6_loudOf_X6_isMarked rfl rfl rfl hd_X6_isMarked ⟨Nat.le_of_ble_eq_true rfl, Nat.le_of_ble_eq_true rfl⟩ (w_8 _ _) rfl rfl rfl (Nat.le_of_ble_eq_true rfl) dX6_loudOf_12 h (fun r4 S3 h => ?_)
  change G X _ S3 15 [(4, .int r2), (0, .ref (ad X 8)), (1, .ref (ad X 1)), (2, .int a2), (3, .ref (ad X 6))] [.int r4]
  refine g_if_eq (pc := 15) (tgt := 32) C h dX6_loudOf_15 (by decide) (fun h => ?_) (fun h => ?_)
  · refine g_weak (lv1 := [(0, .ref (ad X 8)), (1, .ref (ad X 1)), (2, .int a2), (3, .ref (ad X 6)), (4, .int r2)]) [1, 2, 3, 4, 0] rfl ?_
    exact s_X6_loudOf_b32 C a2 r2  S3 h
  · refine g_iload (pc := 18) C dX6_loudOf_18 0 rfl ?_
    refine g_aload_n (pc := 20) C dX6_loudOf_20 rfl 4 rfl ?_
    refine g_aload_n (pc := 21) C dX6_loudOf_21 rfl 1 rfl ?_
    refine g_get (pc := 22) C 8 (w_8 _ _) rfl 2 (Nat.le_of_ble_eq_true rfl) in_X6_X6_loudOf k77_X6_loudOf rfl dX6_loudOf_22 ?_
    refine g_iconst (pc := 25) (v := 4) C dX6_loudOf_25 (by decide) ?_
    refine g_callV (pc := 26) C 6 (c_X8_numberFor (Xl X) (Xb X) (gI S3 13) 4 S3) gX6_loudOf_X8_numberFor rfl rfl rfl hd_X8_numberFor ⟨Nat.le_of_ble_eq_true rfl, Nat.le_of_ble_eq_true rfl⟩ (w_6 _ _) rfl rfl rfl (Nat.le_of_ble_eq_true rfl) dX6_loudOf_26 h (fun r16 S15 h => ?_)
    change G X _ S15 29 [(4, .int r2), (0, .ref (ad X 8)), (1, .ref (ad X 1)), (2, .int a2), (3, .ref (ad X 6))] [.int r16, .int r2]
    refine g_iadd (pc := 29) C dX6_loudOf_29 ?_
    refine g_leti h (fun x17 h => ?_)
    refine g_istore (pc := 30) C [(4, .int x17), (0, .ref (ad X 8)), (1, .ref (ad X 1)), (2, .int a2), (3, .ref (ad X 6))] dX6_loudOf_30 (Nat.le_of_ble_eq_true rfl) rfl ?_
    refine g_weak (lv1 := [(0, .ref (ad X 8)), (1, .ref (ad X 1)), (2, .int a2), (3, .ref (ad X 6)), (4, .int x17)]) [1, 2, 3, 4, 0] rfl ?_
    exact s_X6_loudOf_b32 C a2 x17  S15 h
theorem c_X6_loudOf (l : Launch) (b : Bw) (a2 : Int32) (S : St) : Ct l b yX6_loudOf wsX6_loudOf rmX6_loudOf [.ref (bad b 8), .ref (bad b 1), .int a2, .ref (bad b 6)] S mkI (f_X6_loudOf a2 S) := Ct.of (by decide +kernel) rfl (Nat.le_of_ble_eq_true rfl) (fun X C hl hb r h => by
  subst hl; subst hb
  exact s_X6_loudOf_b0 C a2 S h)
/-! StyleRows$Performer.drawOf(IJ)I -/
set_option maxRecDepth 100000 in
set_option maxHeartbeats 4000000 in
theorem s_X6_drawOf_b0 {X : MC} (C : Cx X cX6_drawOf RX6 wsX6_drawOf 6 rmX6_drawOf (some .int)) (a1 : Int32) (a2 : Int64) (S : St) {r0 : Int32 × St} (h : f_X6_drawOf_b0 a1 a2 S = some r0) : G X (QM mkI X r0) S 0 [(0, .ref (ad X 8)), (1, .int a1), (2, .long a2)] [] := by
  unfold f_X6_drawOf_b0 at h
  refine g_lload_n (pc := 0) C dX6_drawOf_0 rfl 2 rfl ?_
  refine g_aload_n (pc := 1) C dX6_drawOf_1 rfl 0 rfl ?_
  refine g_get (pc := 2) C 8 (w_8 _ _) rfl 1 (Nat.le_of_ble_eq_true rfl) in_X6_X6_drawOf k71_X6_drawOf rfl dX6_drawOf_2 ?_
  refine g_i2l (pc := 5) C dX6_drawOf_5 ?_
  refine g_lconst (pc := 6) (v := 1) C dX6_drawOf_6 (by decide) ?_
  refine g_ladd (pc := 7) C dX6_drawOf_7 ?_
  refine g_ldc2 (pc := 8) (v := (-7046029254386353131)) C k131_X6_drawOf dX6_drawOf_8 ?_
  refine g_lmul (pc := 11) C dX6_drawOf_11 ?_
  refine g_ladd (pc := 12) C dX6_drawOf_12 ?_
  refine g_letl h (fun y1 h => ?_)
  refine g_lstore (pc := 13) C [(4, .long y1), (0, .ref (ad X 8)), (1, .int a1), (2, .long a2)] dX6_drawOf_13 (Nat.le_of_ble_eq_true rfl) rfl ?_
  refine g_lload (pc := 15) C dX6_drawOf_15 0 rfl ?_
  refine g_lload (pc := 17) C dX6_drawOf_17 0 rfl ?_
  refine g_bipush (pc := 19) (v := 30) C dX6_drawOf_19 (by decide) ?_
  refine g_lushr (pc := 21) C dX6_drawOf_21 ?_
  refine g_lxor (pc := 22) C dX6_drawOf_22 ?_
  refine g_ldc2 (pc := 23) (v := (-4658895280553007687)) C k133_X6_drawOf dX6_drawOf_23 ?_
  refine g_lmul (pc := 26) C dX6_drawOf_26 ?_
  refine g_letl h (fun y2 h => ?_)
  refine g_lstore (pc := 27) C [(4, .long y2), (0, .ref (ad X 8)), (1, .int a1), (2, .long a2)] dX6_drawOf_27 (Nat.le_of_ble_eq_true rfl) rfl ?_
  refine g_lload (pc := 29) C dX6_drawOf_29 0 rfl ?_
  refine g_lload (pc := 31) C dX6_drawOf_31 0 rfl ?_
  refine g_bipush (pc := 33) (v := 27) C dX6_drawOf_33 (by decide) ?_
  refine g_lushr (pc := 35) C dX6_drawOf_35 ?_
  refine g_lxor (pc := 36) C dX6_drawOf_36 ?_
  refine g_letl h (fun y3 h => ?_)
  refine g_lstore (pc := 37) C [(4, .long y3), (0, .ref (ad X 8)), (1, .int a1), (2, .long a2)] dX6_drawOf_37 (Nat.le_of_ble_eq_true rfl) rfl ?_
  refine g_lload (pc := 39) C dX6_drawOf_39 0 rfl ?_
  refine g_bipush (pc := 41) (v := 33) C dX6_drawOf_41 (by decide) ?_
  refine g_lushr (pc := 43) C dX6_drawOf_43 ?_
  refine g_ldc2 (pc := 44) (v := 2) C k135_X6_drawOf dX6_drawOf_44 ?_
  refine g_iconst (pc := 47) (v := 0) C dX6_drawOf_47 (by decide) ?_
  refine g_iload_n (pc := 48) C dX6_drawOf_48 rfl 2 rfl ?_
  refine g_mmax (pc := 49) C k108_X6_drawOf kstmax_X6_drawOf kini_X6_drawOf kcomax_X6_drawOf (Nat.le_of_ble_eq_true rfl) (Nat.le_of_ble_eq_true rfl) dX6_drawOf_49 ?_
  refine g_i2l (pc := 52) C dX6_drawOf_52 ?_
  refine g_lmul (pc := 53) C dX6_drawOf_53 ?_
  refine g_lconst (pc := 54) (v := 1) C dX6_drawOf_54 (by decide) ?_
  refine g_ladd (pc := 55) C dX6_drawOf_55 ?_
  refine g_callS (pc := 56) C (c_J9_floorMod_f86c9 (Xl X) (Xb X) (lus y3 33) ((2 * (Int32.toInt64 (imax 0 a1))) + 1) S) gX6_drawOf_J9_floorMod_f86c9 rfl rfl rfl hd_J9_floorMod_f86c9 ⟨Nat.le_of_ble_eq_true rfl, Nat.le_of_ble_eq_true rfl⟩ rfl rfl (Nat.le_of_ble_eq_true rfl) dX6_drawOf_56 h (fun r5 S4 h => ?_)
  change G X _ S4 59 [(4, .long y3), (0, .ref (ad X 8)), (1, .int a1), (2, .long a2)] [.long r5]
  refine g_l2i (pc := 59) C dX6_drawOf_59 ?_
  refine g_iload_n (pc := 60) C dX6_drawOf_60 rfl 2 rfl ?_
  refine g_isub (pc := 61) C dX6_drawOf_61 ?_
  exact g_iret (pc := 62) C h dX6_drawOf_62
theorem c_X6_drawOf (l : Launch) (b : Bw) (a1 : Int32) (a2 : Int64) (S : St) : Ct l b yX6_drawOf wsX6_drawOf rmX6_drawOf [.ref (bad b 8), .int a1, .long a2] S mkI (f_X6_drawOf a1 a2 S) := Ct.of (by decide +kernel) rfl (Nat.le_of_ble_eq_true rfl) (fun X C hl hb r h => by
  subst hl; subst hb
  exact s_X6_drawOf_b0 C a1 a2 S h)
/-! StyleRows$Performer.onOf(ILStyleRows$Rules;J)I -/
set_option maxRecDepth 100000 in
set_option maxHeartbeats 4000000 in
theorem s_X6_onOf_b34 {X : MC} (C : Cx X cX6_onOf RX6 wsX6_onOf 6 rmX6_onOf (some .int)) (w0 : Int32) (S : St) {r0 : Int32 × St} (h : f_X6_onOf_b34 w0 S = some r0) : G X (QM mkI X r0) S 34 [] [.int w0] := by
  unfold f_X6_onOf_b34 at h
  exact g_iret (pc := 34) C h dX6_onOf_34
set_option maxRecDepth 100000 in
set_option maxHeartbeats 4000000 in
theorem s_X6_onOf_b0 {X : MC} (C : Cx X cX6_onOf RX6 wsX6_onOf 6 rmX6_onOf (some .int)) (a1 : Int32) (a3 : Int64) (S : St) {r0 : Int32 × St} (h : f_X6_onOf_b0 a1 a3 S = some r0) : G X (QM mkI X r0) S 0 [(0, .ref (ad X 8)), (1, .int a1), (2, .ref (ad X 6)), (3, .long a3)] [] := by
  unfold f_X6_onOf_b0 at h
  refine g_aload_n (pc := 0) C dX6_onOf_0 rfl 2 rfl ?_
  refine g_aload_n (pc := 1) C dX6_onOf_1 rfl 0 rfl ?_
  refine g_get (pc := 2) C 8 (w_8 _ _) rfl 2 (Nat.le_of_ble_eq_true rfl) in_X6_X6_onOf k77_X6_onOf rfl dX6_onOf_2 ?_
  refine g_bipush (pc := 5) (v := 12) C dX6_onOf_5 (by decide) ?_
  refine g_callV (pc := 7) C 6 (c_X8_numberFor (Xl X) (Xb X) (gI S 13) 12 S) gX6_onOf_X8_numberFor rfl rfl rfl hd_X8_numberFor ⟨Nat.le_of_ble_eq_true rfl, Nat.le_of_ble_eq_true rfl⟩ (w_6 _ _) rfl rfl rfl (Nat.le_of_ble_eq_true rfl) dX6_onOf_7 h (fun r2 S1 h => ?_)
  change G X _ S1 10 [(0, .ref (ad X 8)), (1, .int a1), (2, .ref (ad X 6)), (3, .long a3)] [.int r2]
  refine g_istore (pc := 10) C [(5, .int r2), (0, .ref (ad X 8)), (1, .int a1), (2, .ref (ad X 6)), (3, .long a3)] dX6_onOf_10 (Nat.le_of_ble_eq_true rfl) rfl ?_
  refine g_iload (pc := 12) C dX6_onOf_12 0 rfl ?_
  refine g_if_le (pc := 14) (tgt := 33) C h dX6_onOf_14 (by decide) (fun h => ?_) (fun h => ?_)
  · refine g_iload_n (pc := 33) C dX6_onOf_33 rfl 2 rfl ?_
    refine g_weak (lv1 := []) [] rfl ?_
    exact s_X6_onOf_b34 C a1  S1 h
  · refine g_iconst (pc := 17) (v := 0) C dX6_onOf_17 (by decide) ?_
    refine g_iload_n (pc := 18) C dX6_onOf_18 rfl 2 rfl ?_
    refine g_aload_n (pc := 19) C dX6_onOf_19 rfl 1 rfl ?_
    refine g_iload (pc := 20) C dX6_onOf_20 0 rfl ?_
    refine g_lload_n (pc := 22) C dX6_onOf_22 rfl 4 rfl ?_
    refine g_callV (pc := 23) C 8 (c_X6_drawOf (Xl X) (Xb X) r2 a3 S1) gX6_onOf_X6_drawOf rfl rfl rfl hd_X6_drawOf ⟨Nat.le_of_ble_eq_true rfl, Nat.le_of_ble_eq_true rfl⟩ (w_8 _ _) rfl rfl rfl (Nat.le_of_ble_eq_true rfl) dX6_onOf_23 h (fun r4 S3 h => ?_)
    change G X _ S3 26 [(5, .int r2), (0, .ref (ad X 8)), (1, .int a1), (2, .ref (ad X 6)), (3, .long a3)] [.int r4, .int a1, .int 0]
    refine g_iadd (pc := 26) C dX6_onOf_26 ?_
    refine g_mmax (pc := 27) C k108_X6_onOf kstmax_X6_onOf kini_X6_onOf kcomax_X6_onOf (Nat.le_of_ble_eq_true rfl) (Nat.le_of_ble_eq_true rfl) dX6_onOf_27 ?_
    refine g_goto (pc := 30) (tgt := 34) C dX6_onOf_30 (by decide) ?_
    refine g_weak (lv1 := []) [] rfl ?_
    exact s_X6_onOf_b34 C (imax 0 (a1 + r4))  S3 h
theorem c_X6_onOf (l : Launch) (b : Bw) (a1 : Int32) (a3 : Int64) (S : St) : Ct l b yX6_onOf wsX6_onOf rmX6_onOf [.ref (bad b 8), .int a1, .ref (bad b 6), .long a3] S mkI (f_X6_onOf a1 a3 S) := Ct.of (by decide +kernel) rfl (Nat.le_of_ble_eq_true rfl) (fun X C hl hb r h => by
  subst hl; subst hb
  exact s_X6_onOf_b0 C a1 a3 S h)
/-! StyleRows$Events.add(IIIIIII)V -/
set_option maxRecDepth 100000 in
set_option maxHeartbeats 4000000 in
theorem s_X1_add_b0 {X : MC} (C : Cx X cX1_add RX1 wsX1_add 8 rmX1_add none) (a1 : Int32) (a2 : Int32) (a3 : Int32) (a4 : Int32) (a5 : Int32) (a6 : Int32) (a7 : Int32) (S : St) {r0 : Unit × St} (h : f_X1_add_b0 a1 a2 a3 a4 a5 a6 a7 S = some r0) : G X (QM mkV X r0) S 0 [(0, .ref (ad X 9)), (1, .int a1), (2, .int a2), (3, .int a3), (4, .int a4), (5, .int a5), (6, .int a6), (7, .int a7)] [] := by
  unfold f_X1_add_b0 at h
  refine g_aload_n (pc := 0) C dX1_add_0 rfl 0 rfl ?_
  refine g_get (pc := 1) C 9 (w_9 _ _) rfl 1 (Nat.le_of_ble_eq_true rfl) in_X1_X1_add k16_X1_add rfl dX1_add_1 ?_
  refine g_sipush (pc := 4) (v := 400) C dX1_add_4 (by decide) ?_
  refine g_icmp_lt (pc := 7) (tgt := 16) C h dX1_add_7 (by decide) (fun h => ?_) (fun h => ?_)
  · refine g_aload_n (pc := 16) C dX1_add_16 rfl 0 rfl ?_
    refine g_get (pc := 17) C 9 (w_9 _ _) rfl 0 (Nat.le_of_ble_eq_true rfl) in_X1_X1_add k13_X1_add rfl dX1_add_17 ?_
    refine g_iconst (pc := 20) (v := 0) C dX1_add_20 (by decide) ?_
    refine g_aaldc (pc := 21) (i := 0) C 31 32 (w_31 _ _) rfl rfl dX1_add_21 ?_
    refine g_aload_n (pc := 22) C dX1_add_22 rfl 0 rfl ?_
    refine g_get (pc := 23) C 9 (w_9 _ _) rfl 1 (Nat.le_of_ble_eq_true rfl) in_X1_X1_add k16_X1_add rfl dX1_add_23 ?_
    refine g_iload_n (pc := 26) C dX1_add_26 rfl 1 rfl ?_
    refine g_iast (pc := 27) C 32 (w_32 _ _) (ws_32 _ _) h dX1_add_27 (fun S1 h => ?_)
    refine g_aload_n (pc := 28) C dX1_add_28 rfl 0 rfl ?_
    refine g_get (pc := 29) C 9 (w_9 _ _) rfl 0 (Nat.le_of_ble_eq_true rfl) in_X1_X1_add k13_X1_add rfl dX1_add_29 ?_
    refine g_iconst (pc := 32) (v := 1) C dX1_add_32 (by decide) ?_
    refine g_aaldc (pc := 33) (i := 1) C 31 33 (w_31 _ _) rfl rfl dX1_add_33 ?_
    refine g_aload_n (pc := 34) C dX1_add_34 rfl 0 rfl ?_
    refine g_get (pc := 35) C 9 (w_9 _ _) rfl 1 (Nat.le_of_ble_eq_true rfl) in_X1_X1_add k16_X1_add rfl dX1_add_35 ?_
    refine g_iload_n (pc := 38) C dX1_add_38 rfl 2 rfl ?_
    refine g_iast (pc := 39) C 33 (w_33 _ _) (ws_33 _ _) h dX1_add_39 (fun S2 h => ?_)
    refine g_aload_n (pc := 40) C dX1_add_40 rfl 0 rfl ?_
    refine g_get (pc := 41) C 9 (w_9 _ _) rfl 0 (Nat.le_of_ble_eq_true rfl) in_X1_X1_add k13_X1_add rfl dX1_add_41 ?_
    refine g_iconst (pc := 44) (v := 2) C dX1_add_44 (by decide) ?_
    refine g_aaldc (pc := 45) (i := 2) C 31 34 (w_31 _ _) rfl rfl dX1_add_45 ?_
    refine g_aload_n (pc := 46) C dX1_add_46 rfl 0 rfl ?_
    refine g_get (pc := 47) C 9 (w_9 _ _) rfl 1 (Nat.le_of_ble_eq_true rfl) in_X1_X1_add k16_X1_add rfl dX1_add_47 ?_
    refine g_iload_n (pc := 50) C dX1_add_50 rfl 3 rfl ?_
    refine g_iast (pc := 51) C 34 (w_34 _ _) (ws_34 _ _) h dX1_add_51 (fun S3 h => ?_)
    refine g_aload_n (pc := 52) C dX1_add_52 rfl 0 rfl ?_
    refine g_get (pc := 53) C 9 (w_9 _ _) rfl 0 (Nat.le_of_ble_eq_true rfl) in_X1_X1_add k13_X1_add rfl dX1_add_53 ?_
    refine g_iconst (pc := 56) (v := 3) C dX1_add_56 (by decide) ?_
    refine g_aaldc (pc := 57) (i := 3) C 31 35 (w_31 _ _) rfl rfl dX1_add_57 ?_
    refine g_aload_n (pc := 58) C dX1_add_58 rfl 0 rfl ?_
    refine g_get (pc := 59) C 9 (w_9 _ _) rfl 1 (Nat.le_of_ble_eq_true rfl) in_X1_X1_add k16_X1_add rfl dX1_add_59 ?_
    refine g_iload (pc := 62) C dX1_add_62 4 rfl ?_
    refine g_iast (pc := 64) C 35 (w_35 _ _) (ws_35 _ _) h dX1_add_64 (fun S4 h => ?_)
    refine g_aload_n (pc := 65) C dX1_add_65 rfl 0 rfl ?_
    refine g_get (pc := 66) C 9 (w_9 _ _) rfl 0 (Nat.le_of_ble_eq_true rfl) in_X1_X1_add k13_X1_add rfl dX1_add_66 ?_
    refine g_iconst (pc := 69) (v := 4) C dX1_add_69 (by decide) ?_
    refine g_aaldc (pc := 70) (i := 4) C 31 36 (w_31 _ _) rfl rfl dX1_add_70 ?_
    refine g_aload_n (pc := 71) C dX1_add_71 rfl 0 rfl ?_
    refine g_get (pc := 72) C 9 (w_9 _ _) rfl 1 (Nat.le_of_ble_eq_true rfl) in_X1_X1_add k16_X1_add rfl dX1_add_72 ?_
    refine g_iload (pc := 75) C dX1_add_75 5 rfl ?_
    refine g_iast (pc := 77) C 36 (w_36 _ _) (ws_36 _ _) h dX1_add_77 (fun S5 h => ?_)
    refine g_aload_n (pc := 78) C dX1_add_78 rfl 0 rfl ?_
    refine g_get (pc := 79) C 9 (w_9 _ _) rfl 0 (Nat.le_of_ble_eq_true rfl) in_X1_X1_add k13_X1_add rfl dX1_add_79 ?_
    refine g_iconst (pc := 82) (v := 5) C dX1_add_82 (by decide) ?_
    refine g_aaldc (pc := 83) (i := 5) C 31 37 (w_31 _ _) rfl rfl dX1_add_83 ?_
    refine g_aload_n (pc := 84) C dX1_add_84 rfl 0 rfl ?_
    refine g_get (pc := 85) C 9 (w_9 _ _) rfl 1 (Nat.le_of_ble_eq_true rfl) in_X1_X1_add k16_X1_add rfl dX1_add_85 ?_
    refine g_iload (pc := 88) C dX1_add_88 6 rfl ?_
    refine g_iast (pc := 90) C 37 (w_37 _ _) (ws_37 _ _) h dX1_add_90 (fun S6 h => ?_)
    refine g_aload_n (pc := 91) C dX1_add_91 rfl 0 rfl ?_
    refine g_get (pc := 92) C 9 (w_9 _ _) rfl 0 (Nat.le_of_ble_eq_true rfl) in_X1_X1_add k13_X1_add rfl dX1_add_92 ?_
    refine g_bipush (pc := 95) (v := 6) C dX1_add_95 (by decide) ?_
    refine g_aaldc (pc := 97) (i := 6) C 31 38 (w_31 _ _) rfl rfl dX1_add_97 ?_
    refine g_aload_n (pc := 98) C dX1_add_98 rfl 0 rfl ?_
    refine g_get (pc := 99) C 9 (w_9 _ _) rfl 1 (Nat.le_of_ble_eq_true rfl) in_X1_X1_add k16_X1_add rfl dX1_add_99 ?_
    refine g_iload (pc := 102) C dX1_add_102 7 rfl ?_
    refine g_iast (pc := 104) C 38 (w_38 _ _) (ws_38 _ _) h dX1_add_104 (fun S7 h => ?_)
    refine g_aload_n (pc := 105) C dX1_add_105 rfl 0 rfl ?_
    refine g_dup (pc := 106) C dX1_add_106 rfl ?_
    refine g_get (pc := 107) C 9 (w_9 _ _) rfl 1 (Nat.le_of_ble_eq_true rfl) in_X1_X1_add k16_X1_add rfl dX1_add_107 ?_
    refine g_iconst (pc := 110) (v := 1) C dX1_add_110 (by decide) ?_
    refine g_iadd (pc := 111) C dX1_add_111 ?_
    refine g_put (pc := 112) C 9 (w_9 _ _) rfl 1 (Nat.le_of_ble_eq_true rfl) in_X1_X1_add tyX1_ok nmX1 k16_X1_add rfl rfl rfl (Nat.le_of_ble_eq_true rfl) (ws_9_1 _ _ _) dX1_add_112 h (fun S8 h => ?_)
    exact g_vret (pc := 115) C h dX1_add_115
  · refine g_aload_n (pc := 10) C dX1_add_10 rfl 0 rfl ?_
    refine g_iconst (pc := 11) (v := 1) C dX1_add_11 (by decide) ?_
    refine g_put (pc := 12) C 9 (w_9 _ _) rfl 2 (Nat.le_of_ble_eq_true rfl) in_X1_X1_add tyX1_ok nmX1 k20_X1_add rfl rfl rfl (Nat.le_of_ble_eq_true rfl) (ws_9_2 _ _ _) dX1_add_12 h (fun S9 h => ?_)
    exact g_vret (pc := 15) C h dX1_add_15
theorem c_X1_add (l : Launch) (b : Bw) (a1 : Int32) (a2 : Int32) (a3 : Int32) (a4 : Int32) (a5 : Int32) (a6 : Int32) (a7 : Int32) (S : St) : Ct l b yX1_add wsX1_add rmX1_add [.ref (bad b 9), .int a1, .int a2, .int a3, .int a4, .int a5, .int a6, .int a7] S mkV (f_X1_add a1 a2 a3 a4 a5 a6 a7 S) := Ct.of (by decide +kernel) rfl (Nat.le_of_ble_eq_true rfl) (fun X C hl hb r h => by
  subst hl; subst hb
  exact s_X1_add_b0 C a1 a2 a3 a4 a5 a6 a7 S h)
/-! StyleRows$Performer.addPart(IIII)V -/
set_option maxRecDepth 100000 in
set_option maxHeartbeats 4000000 in
theorem s_X6_addPart_b0 {X : MC} (C : Cx X cX6_addPart RX6 wsX6_addPart 5 rmX6_addPart none) (a1 : Int32) (a2 : Int32) (a3 : Int32) (a4 : Int32) (S : St) {r0 : Unit × St} (h : f_X6_addPart_b0 a1 a2 a3 a4 S = some r0) : G X (QM mkV X r0) S 0 [(0, .ref (ad X 8)), (1, .int a1), (2, .int a2), (3, .int a3), (4, .int a4)] [] := by
  unfold f_X6_addPart_b0 at h
  refine g_aload_n (pc := 0) C dX6_addPart_0 rfl 0 rfl ?_
  refine g_get (pc := 1) C 8 (w_8 _ _) rfl 0 (Nat.le_of_ble_eq_true rfl) in_X6_X6_addPart k10_X6_addPart rfl dX6_addPart_1 ?_
  refine g_aload_n (pc := 4) C dX6_addPart_4 rfl 0 rfl ?_
  refine g_get (pc := 5) C 8 (w_8 _ _) rfl 6 (Nat.le_of_ble_eq_true rfl) in_X6_X6_addPart k64_X6_addPart rfl dX6_addPart_5 ?_
  refine g_iload (pc := 8) C dX6_addPart_8 4 rfl ?_
  refine g_iload_n (pc := 10) C dX6_addPart_10 rfl 2 rfl ?_
  refine g_iload_n (pc := 11) C dX6_addPart_11 rfl 3 rfl ?_
  refine g_aload_n (pc := 12) C dX6_addPart_12 rfl 0 rfl ?_
  refine g_get (pc := 13) C 8 (w_8 _ _) rfl 1 (Nat.le_of_ble_eq_true rfl) in_X6_X6_addPart k71_X6_addPart rfl dX6_addPart_13 ?_
  refine g_iload_n (pc := 16) C dX6_addPart_16 rfl 1 rfl ?_
  refine g_aload_n (pc := 17) C dX6_addPart_17 rfl 0 rfl ?_
  refine g_get (pc := 18) C 8 (w_8 _ _) rfl 2 (Nat.le_of_ble_eq_true rfl) in_X6_X6_addPart k77_X6_addPart rfl dX6_addPart_18 ?_
  refine g_callV (pc := 21) C 9 (c_X1_add (Xl X) (Xb X) (gI S 17) a4 a2 a3 (gI S 12) a1 (gI S 13) S) gX6_addPart_X1_add rfl rfl rfl hd_X1_add ⟨Nat.le_of_ble_eq_true rfl, Nat.le_of_ble_eq_true rfl⟩ (w_9 _ _) rfl rfl rfl (Nat.le_of_ble_eq_true rfl) dX6_addPart_21 h (fun _u1 S1 h => ?_)
  change G X _ S1 24 [(0, .ref (ad X 8)), (1, .int a1), (2, .int a2), (3, .int a3), (4, .int a4)] []
  refine g_aload_n (pc := 24) C dX6_addPart_24 rfl 0 rfl ?_
  refine g_dup (pc := 25) C dX6_addPart_25 rfl ?_
  refine g_get (pc := 26) C 8 (w_8 _ _) rfl 6 (Nat.le_of_ble_eq_true rfl) in_X6_X6_addPart k64_X6_addPart rfl dX6_addPart_26 ?_
  refine g_iload (pc := 29) C dX6_addPart_29 4 rfl ?_
  refine g_iadd (pc := 31) C dX6_addPart_31 ?_
  refine g_put (pc := 32) C 8 (w_8 _ _) rfl 6 (Nat.le_of_ble_eq_true rfl) in_X6_X6_addPart tyX6_ok nmX6 k64_X6_addPart rfl rfl rfl (Nat.le_of_ble_eq_true rfl) (ws_8_6 _ _ _) dX6_addPart_32 h (fun S2 h => ?_)
  refine g_aload_n (pc := 35) C dX6_addPart_35 rfl 0 rfl ?_
  refine g_dup (pc := 36) C dX6_addPart_36 rfl ?_
  refine g_get (pc := 37) C 8 (w_8 _ _) rfl 7 (Nat.le_of_ble_eq_true rfl) in_X6_X6_addPart k47_X6_addPart rfl dX6_addPart_37 ?_
  refine g_iload (pc := 40) C dX6_addPart_40 4 rfl ?_
  refine g_isub (pc := 42) C dX6_addPart_42 ?_
  refine g_put (pc := 43) C 8 (w_8 _ _) rfl 7 (Nat.le_of_ble_eq_true rfl) in_X6_X6_addPart tyX6_ok nmX6 k47_X6_addPart rfl rfl rfl (Nat.le_of_ble_eq_true rfl) (ws_8_7 _ _ _) dX6_addPart_43 h (fun S3 h => ?_)
  exact g_vret (pc := 46) C h dX6_addPart_46
theorem c_X6_addPart (l : Launch) (b : Bw) (a1 : Int32) (a2 : Int32) (a3 : Int32) (a4 : Int32) (S : St) : Ct l b yX6_addPart wsX6_addPart rmX6_addPart [.ref (bad b 8), .int a1, .int a2, .int a3, .int a4] S mkV (f_X6_addPart a1 a2 a3 a4 S) := Ct.of (by decide +kernel) rfl (Nat.le_of_ble_eq_true rfl) (fun X C hl hb r h => by
  subst hl; subst hb
  exact s_X6_addPart_b0 C a1 a2 a3 a4 S h)
/-! StyleRows$Performer.addTurn(LStyleRows$Rules;)Z -/
set_option maxRecDepth 100000 in
set_option maxHeartbeats 4000000 in
theorem s_X6_addTurn_b0 {X : MC} (C : Cx X cX6_addTurn RX6 wsX6_addTurn 3 rmX6_addTurn (some .boolean)) (S : St) {r0 : Int32 × St} (h : f_X6_addTurn_b0 S = some r0) : G X (QM mkI X r0) S 0 [(0, .ref (ad X 8)), (1, .ref (ad X 6))] [] := by
  unfold f_X6_addTurn_b0 at h
  refine g_aload_n (pc := 0) C dX6_addTurn_0 rfl 0 rfl ?_
  refine g_get (pc := 1) C 8 (w_8 _ _) rfl 7 (Nat.le_of_ble_eq_true rfl) in_X6_X6_addTurn k47_X6_addTurn rfl dX6_addTurn_1 ?_
  refine g_iconst (pc := 4) (v := 3) C dX6_addTurn_4 (by decide) ?_
  refine g_icmp_ge (pc := 5) (tgt := 10) C h dX6_addTurn_5 (by decide) (fun h => ?_) (fun h => ?_)
  · refine g_aload_n (pc := 10) C dX6_addTurn_10 rfl 1 rfl ?_
    refine g_aload_n (pc := 11) C dX6_addTurn_11 rfl 0 rfl ?_
    refine g_get (pc := 12) C 8 (w_8 _ _) rfl 2 (Nat.le_of_ble_eq_true rfl) in_X6_X6_addTurn k77_X6_addTurn rfl dX6_addTurn_12 ?_
    refine g_bipush (pc := 15) (v := 9) C dX6_addTurn_15 (by decide) ?_
    refine g_callV (pc := 17) C 6 (c_X8_numberFor (Xl X) (Xb X) (gI S 13) 9 S) gX6_addTurn_X8_numberFor rfl rfl rfl hd_X8_numberFor ⟨Nat.le_of_ble_eq_true rfl, Nat.le_of_ble_eq_true rfl⟩ (w_6 _ _) rfl rfl rfl (Nat.le_of_ble_eq_true rfl) dX6_addTurn_17 h (fun r2 S1 h => ?_)
    change G X _ S1 20 [(0, .ref (ad X 8)), (1, .ref (ad X 6))] [.int r2]
    refine g_aload_n (pc := 20) C dX6_addTurn_20 rfl 0 rfl ?_
    refine g_get (pc := 21) C 8 (w_8 _ _) rfl 7 (Nat.le_of_ble_eq_true rfl) in_X6_X6_addTurn k47_X6_addTurn rfl dX6_addTurn_21 ?_
    refine g_iconst (pc := 24) (v := 3) C dX6_addTurn_24 (by decide) ?_
    refine g_idiv (pc := 25) C h dX6_addTurn_25 (fun h => ?_)
    refine g_mmin (pc := 26) C k103_X6_addTurn kstmin_X6_addTurn kini_X6_addTurn kcomin_X6_addTurn (Nat.le_of_ble_eq_true rfl) (Nat.le_of_ble_eq_true rfl) dX6_addTurn_26 ?_
    refine g_leti h (fun x3 h => ?_)
    refine g_istore_n (pc := 29) C [(2, .int x3), (0, .ref (ad X 8)), (1, .ref (ad X 6))] dX6_addTurn_29 rfl (Nat.le_of_ble_eq_true rfl) rfl ?_
    refine g_aload_n (pc := 30) C dX6_addTurn_30 rfl 1 rfl ?_
    refine g_iconst (pc := 31) (v := 3) C dX6_addTurn_31 (by decide) ?_
    refine g_aload_n (pc := 32) C dX6_addTurn_32 rfl 1 rfl ?_
    refine g_get (pc := 33) C 8 (w_8 _ _) rfl 3 (Nat.le_of_ble_eq_true rfl) in_X6_X6_addTurn k83_X6_addTurn rfl dX6_addTurn_33 ?_
    refine g_aload_n (pc := 36) C dX6_addTurn_36 rfl 1 rfl ?_
    refine g_get (pc := 37) C 8 (w_8 _ _) rfl 5 (Nat.le_of_ble_eq_true rfl) in_X6_X6_addTurn k57_X6_addTurn rfl dX6_addTurn_37 ?_
    refine g_iload_n (pc := 40) C dX6_addTurn_40 rfl 0 rfl ?_
    refine g_callV (pc := 41) C 8 (c_X6_addPart (Xl X) (Xb X) 3 (gI S1 14) (gI S1 16) x3 S1) gX6_addTurn_X6_addPart rfl rfl rfl hd_X6_addPart ⟨Nat.le_of_ble_eq_true rfl, Nat.le_of_ble_eq_true rfl⟩ (w_8 _ _) rfl rfl rfl (Nat.le_of_ble_eq_true rfl) dX6_addTurn_41 h (fun _u4 S4 h => ?_)
    change G X _ S4 44 [(2, .int x3), (0, .ref (ad X 8)), (1, .ref (ad X 6))] []
    refine g_aload_n (pc := 44) C dX6_addTurn_44 rfl 1 rfl ?_
    refine g_iconst (pc := 45) (v := 3) C dX6_addTurn_45 (by decide) ?_
    refine g_aload_n (pc := 46) C dX6_addTurn_46 rfl 1 rfl ?_
    refine g_get (pc := 47) C 8 (w_8 _ _) rfl 3 (Nat.le_of_ble_eq_true rfl) in_X6_X6_addTurn k83_X6_addTurn rfl dX6_addTurn_47 ?_
    refine g_iconst (pc := 50) (v := 2) C dX6_addTurn_50 (by decide) ?_
    refine g_isub (pc := 51) C dX6_addTurn_51 ?_
    refine g_aload_n (pc := 52) C dX6_addTurn_52 rfl 1 rfl ?_
    refine g_get (pc := 53) C 8 (w_8 _ _) rfl 5 (Nat.le_of_ble_eq_true rfl) in_X6_X6_addTurn k57_X6_addTurn rfl dX6_addTurn_53 ?_
    refine g_iload_n (pc := 56) C dX6_addTurn_56 rfl 0 rfl ?_
    refine g_callV (pc := 57) C 8 (c_X6_addPart (Xl X) (Xb X) 3 ((gI S4 14) - 2) (gI S4 16) x3 S4) gX6_addTurn_X6_addPart rfl rfl rfl hd_X6_addPart ⟨Nat.le_of_ble_eq_true rfl, Nat.le_of_ble_eq_true rfl⟩ (w_8 _ _) rfl rfl rfl (Nat.le_of_ble_eq_true rfl) dX6_addTurn_57 h (fun _u5 S5 h => ?_)
    change G X _ S5 60 [(2, .int x3), (0, .ref (ad X 8)), (1, .ref (ad X 6))] []
    refine g_aload_n (pc := 60) C dX6_addTurn_60 rfl 1 rfl ?_
    refine g_iconst (pc := 61) (v := 3) C dX6_addTurn_61 (by decide) ?_
    refine g_aload_n (pc := 62) C dX6_addTurn_62 rfl 1 rfl ?_
    refine g_get (pc := 63) C 8 (w_8 _ _) rfl 3 (Nat.le_of_ble_eq_true rfl) in_X6_X6_addTurn k83_X6_addTurn rfl dX6_addTurn_63 ?_
    refine g_aload_n (pc := 66) C dX6_addTurn_66 rfl 1 rfl ?_
    refine g_get (pc := 67) C 8 (w_8 _ _) rfl 5 (Nat.le_of_ble_eq_true rfl) in_X6_X6_addTurn k57_X6_addTurn rfl dX6_addTurn_67 ?_
    refine g_aload_n (pc := 70) C dX6_addTurn_70 rfl 1 rfl ?_
    refine g_get (pc := 71) C 8 (w_8 _ _) rfl 7 (Nat.le_of_ble_eq_true rfl) in_X6_X6_addTurn k47_X6_addTurn rfl dX6_addTurn_71 ?_
    refine g_callV (pc := 74) C 8 (c_X6_addPart (Xl X) (Xb X) 3 (gI S5 14) (gI S5 16) (gI S5 18) S5) gX6_addTurn_X6_addPart rfl rfl rfl hd_X6_addPart ⟨Nat.le_of_ble_eq_true rfl, Nat.le_of_ble_eq_true rfl⟩ (w_8 _ _) rfl rfl rfl (Nat.le_of_ble_eq_true rfl) dX6_addTurn_74 h (fun _u6 S6 h => ?_)
    change G X _ S6 77 [(2, .int x3), (0, .ref (ad X 8)), (1, .ref (ad X 6))] []
    refine g_iconst (pc := 77) (v := 1) C dX6_addTurn_77 (by decide) ?_
    exact g_zretc (pc := 78) C rfl h dX6_addTurn_78
  · refine g_iconst (pc := 8) (v := 0) C dX6_addTurn_8 (by decide) ?_
    exact g_zretc (pc := 9) C rfl h dX6_addTurn_9
theorem c_X6_addTurn (l : Launch) (b : Bw) (S : St) : Ct l b yX6_addTurn wsX6_addTurn rmX6_addTurn [.ref (bad b 8), .ref (bad b 6)] S mkI (f_X6_addTurn S) := Ct.of (by decide +kernel) rfl (Nat.le_of_ble_eq_true rfl) (fun X C hl hb r h => by
  subst hl; subst hb
  exact s_X6_addTurn_b0 C S h)
/-! StyleRows$Performer.addTrill(LStyleRows$Rules;)Z -/
set_option maxRecDepth 100000 in
set_option maxHeartbeats 4000000 in
theorem s_X6_addTrill_b129 {X : MC} (C : Cx X cX6_addTrill RX6 wsX6_addTrill 7 rmX6_addTrill (some .boolean)) {rec85 : Int32 × Int32 × St → Option (Int32 × St)} (v2 : Int32) (v3 : Int32) (v6 : Int32) (w0 : Int32) (hrec85 : ∀ (s : Int32 × Int32 × St) (r : Int32 × St), rec85 s = some r → G X (QM mkI X r) s.2.2 85 [(0, .ref (ad X 8)), (2, .int v2), (3, .int v3), (4, .int (s.1)), (6, .int (s.2.1))] []) (S : St) {r0 : Int32 × St} (h : f_X6_addTrill_b129 rec85 v2 v3 v6 w0 S = some r0) : G X (QM mkI X r0) S 129 [(0, .ref (ad X 8)), (2, .int v2), (3, .int v3), (6, .int v6)] [.int w0] := by
  unfold f_X6_addTrill_b129 at h
  refine g_istore (pc := 129) C [(4, .int w0), (0, .ref (ad X 8)), (2, .int v2), (3, .int v3), (6, .int v6)] dX6_addTrill_129 (Nat.le_of_ble_eq_true rfl) rfl ?_
  refine g_iinc (pc := 131) (v := v6 + 1) C [(6, .int (v6 + 1)), (4, .int w0), (0, .ref (ad X 8)), (2, .int v2), (3, .int v3)] dX6_addTrill_131 4 rfl rfl (Nat.le_of_ble_eq_true rfl) rfl ?_
  refine g_goto (pc := 134) (tgt := 85) C dX6_addTrill_134 (by decide) ?_
  refine g_weak (lv1 := [(0, .ref (ad X 8)), (2, .int v2), (3, .int v3), (4, .int w0), (6, .int (v6 + 1))]) [2, 3, 4, 1, 0] rfl ?_
  exact hrec85 (w0, v6 + 1, S) _ h
set_option maxRecDepth 100000 in
set_option maxHeartbeats 4000000 in
theorem s_X6_addTrill_b111 {X : MC} (C : Cx X cX6_addTrill RX6 wsX6_addTrill 7 rmX6_addTrill (some .boolean)) {rec85 : Int32 × Int32 × St → Option (Int32 × St)} (v2 : Int32) (v3 : Int32) (v4 : Int32) (v6 : Int32) (w1 : Int32) (w2 : Int32) (hrec85 : ∀ (s : Int32 × Int32 × St) (r : Int32 × St), rec85 s = some r → G X (QM mkI X r) s.2.2 85 [(0, .ref (ad X 8)), (2, .int v2), (3, .int v3), (4, .int (s.1)), (6, .int (s.2.1))] []) (S : St) {r0 : Int32 × St} (h : f_X6_addTrill_b111 rec85 v2 v3 v4 v6 w1 w2 S = some r0) : G X (QM mkI X r0) S 111 [(0, .ref (ad X 8)), (2, .int v2), (3, .int v3), (4, .int v4), (6, .int v6)] [.int w2, .int w1, .ref (ad X 8)] := by
  unfold f_X6_addTrill_b111 at h
  refine g_aload_n (pc := 111) C dX6_addTrill_111 rfl 0 rfl ?_
  refine g_get (pc := 112) C 8 (w_8 _ _) rfl 5 (Nat.le_of_ble_eq_true rfl) in_X6_X6_addTrill k57_X6_addTrill rfl dX6_addTrill_112 ?_
  refine g_iload_n (pc := 115) C dX6_addTrill_115 rfl 1 rfl ?_
  refine g_callV (pc := 116) C 8 (c_X6_addPart (Xl X) (Xb X) w1 w2 (gI S 16) v2 S) gX6_addTrill_X6_addPart rfl rfl rfl hd_X6_addPart ⟨Nat.le_of_ble_eq_true rfl, Nat.le_of_ble_eq_true rfl⟩ (w_8 _ _) rfl rfl rfl (Nat.le_of_ble_eq_true rfl) dX6_addTrill_116 h (fun _u8 S8 h => ?_)
  change G X _ S8 119 [(0, .ref (ad X 8)), (2, .int v2), (3, .int v3), (4, .int v4), (6, .int v6)] []
  refine g_iload (pc := 119) C dX6_addTrill_119 3 rfl ?_
  refine g_if_ne (pc := 121) (tgt := 128) C h dX6_addTrill_121 (by decide) (fun h => ?_) (fun h => ?_)
  · refine g_iconst (pc := 128) (v := 0) C dX6_addTrill_128 (by decide) ?_
    refine g_weak (lv1 := [(0, .ref (ad X 8)), (2, .int v2), (3, .int v3), (6, .int v6)]) [0, 1, 2, 4] rfl ?_
    exact s_X6_addTrill_b129 C v2 v3 v6 0 hrec85  S8 h
  · refine g_iconst (pc := 124) (v := 1) C dX6_addTrill_124 (by decide) ?_
    refine g_goto (pc := 125) (tgt := 129) C dX6_addTrill_125 (by decide) ?_
    refine g_weak (lv1 := [(0, .ref (ad X 8)), (2, .int v2), (3, .int v3), (6, .int v6)]) [0, 1, 2, 4] rfl ?_
    exact s_X6_addTrill_b129 C v2 v3 v6 1 hrec85  S8 h
set_option maxRecDepth 100000 in
set_option maxHeartbeats 4000000 in
theorem s_X6_addTrill_b85 {X : MC} (C : Cx X cX6_addTrill RX6 wsX6_addTrill 7 rmX6_addTrill (some .boolean)) {rec85 : Int32 × Int32 × St → Option (Int32 × St)} (v2 : Int32) (v3 : Int32) (v4 : Int32) (v6 : Int32) (hrec85 : ∀ (s : Int32 × Int32 × St) (r : Int32 × St), rec85 s = some r → G X (QM mkI X r) s.2.2 85 [(0, .ref (ad X 8)), (2, .int v2), (3, .int v3), (4, .int (s.1)), (6, .int (s.2.1))] []) (S : St) {r0 : Int32 × St} (h : f_X6_addTrill_b85 rec85 v2 v3 v4 v6 S = some r0) : G X (QM mkI X r0) S 85 [(0, .ref (ad X 8)), (2, .int v2), (3, .int v3), (4, .int v4), (6, .int v6)] [] := by
  unfold f_X6_addTrill_b85 at h
  refine g_iload (pc := 85) C dX6_addTrill_85 4 rfl ?_
  refine g_iload_n (pc := 87) C dX6_addTrill_87 rfl 2 rfl ?_
  refine g_icmp_ge (pc := 88) (tgt := 137) C h dX6_addTrill_88 (by decide) (fun h => ?_) (fun h => ?_)
  · refine g_aload_n (pc := 137) C dX6_addTrill_137 rfl 0 rfl ?_
    refine g_iconst (pc := 138) (v := 2) C dX6_addTrill_138 (by decide) ?_
    refine g_aload_n (pc := 139) C dX6_addTrill_139 rfl 0 rfl ?_
    refine g_get (pc := 140) C 8 (w_8 _ _) rfl 3 (Nat.le_of_ble_eq_true rfl) in_X6_X6_addTrill k83_X6_addTrill rfl dX6_addTrill_140 ?_
    refine g_aload_n (pc := 143) C dX6_addTrill_143 rfl 0 rfl ?_
    refine g_get (pc := 144) C 8 (w_8 _ _) rfl 5 (Nat.le_of_ble_eq_true rfl) in_X6_X6_addTrill k57_X6_addTrill rfl dX6_addTrill_144 ?_
    refine g_aload_n (pc := 147) C dX6_addTrill_147 rfl 0 rfl ?_
    refine g_get (pc := 148) C 8 (w_8 _ _) rfl 7 (Nat.le_of_ble_eq_true rfl) in_X6_X6_addTrill k47_X6_addTrill rfl dX6_addTrill_148 ?_
    refine g_callV (pc := 151) C 8 (c_X6_addPart (Xl X) (Xb X) 2 (gI S 14) (gI S 16) (gI S 18) S) gX6_addTrill_X6_addPart rfl rfl rfl hd_X6_addPart ⟨Nat.le_of_ble_eq_true rfl, Nat.le_of_ble_eq_true rfl⟩ (w_8 _ _) rfl rfl rfl (Nat.le_of_ble_eq_true rfl) dX6_addTrill_151 h (fun _u7 S7 h => ?_)
    change G X _ S7 154 [(0, .ref (ad X 8)), (2, .int v2), (3, .int v3), (4, .int v4), (6, .int v6)] []
    refine g_iconst (pc := 154) (v := 1) C dX6_addTrill_154 (by decide) ?_
    exact g_zretc (pc := 155) C rfl h dX6_addTrill_155
  · refine g_aload_n (pc := 91) C dX6_addTrill_91 rfl 0 rfl ?_
    refine g_iconst (pc := 92) (v := 2) C dX6_addTrill_92 (by decide) ?_
    refine g_iload (pc := 93) C dX6_addTrill_93 3 rfl ?_
    refine g_if_eq (pc := 95) (tgt := 107) C h dX6_addTrill_95 (by decide) (fun h => ?_) (fun h => ?_)
    · refine g_aload_n (pc := 107) C dX6_addTrill_107 rfl 0 rfl ?_
      refine g_get (pc := 108) C 8 (w_8 _ _) rfl 3 (Nat.le_of_ble_eq_true rfl) in_X6_X6_addTrill k83_X6_addTrill rfl dX6_addTrill_108 ?_
      refine g_weak (lv1 := [(0, .ref (ad X 8)), (2, .int v2), (3, .int v3), (4, .int v4), (6, .int v6)]) [0, 1, 2, 3, 4] rfl ?_
      exact s_X6_addTrill_b111 C v2 v3 v4 v6 2 (gI S 14) hrec85  S h
    · refine g_aload_n (pc := 98) C dX6_addTrill_98 rfl 0 rfl ?_
      refine g_get (pc := 99) C 8 (w_8 _ _) rfl 3 (Nat.le_of_ble_eq_true rfl) in_X6_X6_addTrill k83_X6_addTrill rfl dX6_addTrill_99 ?_
      refine g_iconst (pc := 102) (v := 2) C dX6_addTrill_102 (by decide) ?_
      refine g_iadd (pc := 103) C dX6_addTrill_103 ?_
      refine g_goto (pc := 104) (tgt := 111) C dX6_addTrill_104 (by decide) ?_
      refine g_weak (lv1 := [(0, .ref (ad X 8)), (2, .int v2), (3, .int v3), (4, .int v4), (6, .int v6)]) [0, 1, 2, 3, 4] rfl ?_
      exact s_X6_addTrill_b111 C v2 v3 v4 v6 2 ((gI S 14) + 2) hrec85  S h
set_option maxRecDepth 100000 in
set_option maxHeartbeats 4000000 in
theorem s_X6_addTrill_l85 {X : MC} (C : Cx X cX6_addTrill RX6 wsX6_addTrill 7 rmX6_addTrill (some .boolean)) (v2 : Int32) (v3 : Int32) : ∀ (n : Nat) (s : Int32 × Int32 × St) (r : Int32 × St), f_X6_addTrill_l85 v2 v3 n s = some r → G X (QM mkI X r) s.2.2 85 [(0, .ref (ad X 8)), (2, .int v2), (3, .int v3), (4, .int (s.1)), (6, .int (s.2.1))] [] :=
  loop_sound (fun rec85 hrec85 s r h => s_X6_addTrill_b85 C v2 v3 s.1 s.2.1 hrec85 s.2.2 h)
set_option maxRecDepth 100000 in
set_option maxHeartbeats 4000000 in
theorem s_X6_addTrill_b82 {X : MC} (C : Cx X cX6_addTrill RX6 wsX6_addTrill 7 rmX6_addTrill (some .boolean)) (v2 : Int32) (v3 : Int32) (v4 : Int32) (S : St) {r0 : Int32 × St} (h : f_X6_addTrill_b82 v2 v3 v4 S = some r0) : G X (QM mkI X r0) S 82 [(0, .ref (ad X 8)), (2, .int v2), (3, .int v3), (4, .int v4)] [] := by
  unfold f_X6_addTrill_b82 at h
  refine g_iconst (pc := 82) (v := 1) C dX6_addTrill_82 (by decide) ?_
  refine g_istore (pc := 83) C [(6, .int 1), (0, .ref (ad X 8)), (2, .int v2), (3, .int v3), (4, .int v4)] dX6_addTrill_83 (Nat.le_of_ble_eq_true rfl) rfl ?_
  refine g_weak (lv1 := [(0, .ref (ad X 8)), (2, .int v2), (3, .int v3), (4, .int v4), (6, .int 1)]) [1, 2, 3, 4, 0] rfl ?_
  exact s_X6_addTrill_l85 C v2 v3 _ (v4, 1, S) _ h
set_option maxRecDepth 100000 in
set_option maxHeartbeats 4000000 in
theorem s_X6_addTrill_b72 {X : MC} (C : Cx X cX6_addTrill RX6 wsX6_addTrill 7 rmX6_addTrill (some .boolean)) (v2 : Int32) (v3 : Int32) (v4 : Int32) (w0 : Int32) (S : St) {r0 : Int32 × St} (h : f_X6_addTrill_b72 v2 v3 v4 w0 S = some r0) : G X (QM mkI X r0) S 72 [(0, .ref (ad X 8)), (2, .int v2), (3, .int v3), (4, .int v4)] [.int w0] := by
  unfold f_X6_addTrill_b72 at h
  refine g_istore (pc := 72) C [(5, .int w0), (0, .ref (ad X 8)), (2, .int v2), (3, .int v3), (4, .int v4)] dX6_addTrill_72 (Nat.le_of_ble_eq_true rfl) rfl ?_
  refine g_iload (pc := 74) C dX6_addTrill_74 0 rfl ?_
  refine g_if_eq (pc := 76) (tgt := 82) C h dX6_addTrill_76 (by decide) (fun h => ?_) (fun h => ?_)
  · refine g_weak (lv1 := [(0, .ref (ad X 8)), (2, .int v2), (3, .int v3), (4, .int v4)]) [1, 2, 3, 4] rfl ?_
    exact s_X6_addTrill_b82 C v2 v3 v4  S h
  · refine g_iinc (pc := 79) (v := v3 + (-1)) C [(3, .int (v3 + (-1))), (5, .int w0), (0, .ref (ad X 8)), (2, .int v2), (4, .int v4)] dX6_addTrill_79 3 rfl rfl (Nat.le_of_ble_eq_true rfl) rfl ?_
    refine g_weak (lv1 := [(0, .ref (ad X 8)), (2, .int v2), (3, .int (v3 + (-1))), (4, .int v4)]) [2, 3, 0, 4] rfl ?_
    exact s_X6_addTrill_b82 C v2 (v3 + (-1)) v4  S h
set_option maxRecDepth 100000 in
set_option maxHeartbeats 4000000 in
theorem s_X6_addTrill_b62 {X : MC} (C : Cx X cX6_addTrill RX6 wsX6_addTrill 7 rmX6_addTrill (some .boolean)) (v2 : Int32) (v3 : Int32) (v4 : Int32) (w0 : Int32) (S : St) {r0 : Int32 × St} (h : f_X6_addTrill_b62 v2 v3 v4 w0 S = some r0) : G X (QM mkI X r0) S 62 [(0, .ref (ad X 8)), (2, .int v2), (3, .int v3), (4, .int v4)] [.int w0] := by
  unfold f_X6_addTrill_b62 at h
  refine g_iload (pc := 62) C dX6_addTrill_62 3 rfl ?_
  refine g_icmp_ne (pc := 64) (tgt := 71) C h dX6_addTrill_64 (by decide) (fun h => ?_) (fun h => ?_)
  · refine g_iconst (pc := 71) (v := 0) C dX6_addTrill_71 (by decide) ?_
    refine g_weak (lv1 := [(0, .ref (ad X 8)), (2, .int v2), (3, .int v3), (4, .int v4)]) [0, 1, 2, 3] rfl ?_
    exact s_X6_addTrill_b72 C v2 v3 v4 0  S h
  · refine g_iconst (pc := 67) (v := 1) C dX6_addTrill_67 (by decide) ?_
    refine g_goto (pc := 68) (tgt := 72) C dX6_addTrill_68 (by decide) ?_
    refine g_weak (lv1 := [(0, .ref (ad X 8)), (2, .int v2), (3, .int v3), (4, .int v4)]) [0, 1, 2, 3] rfl ?_
    exact s_X6_addTrill_b72 C v2 v3 v4 1  S h
set_option maxRecDepth 100000 in
set_option maxHeartbeats 4000000 in
theorem s_X6_addTrill_b48 {X : MC} (C : Cx X cX6_addTrill RX6 wsX6_addTrill 7 rmX6_addTrill (some .boolean)) (v2 : Int32) (v3 : Int32) (w0 : Int32) (S : St) {r0 : Int32 × St} (h : f_X6_addTrill_b48 v2 v3 w0 S = some r0) : G X (QM mkI X r0) S 48 [(0, .ref (ad X 8)), (2, .int v2), (3, .int v3)] [.int w0] := by
  unfold f_X6_addTrill_b48 at h
  refine g_istore (pc := 48) C [(4, .int w0), (0, .ref (ad X 8)), (2, .int v2), (3, .int v3)] dX6_addTrill_48 (Nat.le_of_ble_eq_true rfl) rfl ?_
  refine g_iload_n (pc := 50) C dX6_addTrill_50 rfl 3 rfl ?_
  refine g_iconst (pc := 51) (v := 2) C dX6_addTrill_51 (by decide) ?_
  refine g_irem (pc := 52) C h dX6_addTrill_52 (fun h => ?_)
  refine g_iconst (pc := 53) (v := 1) C dX6_addTrill_53 (by decide) ?_
  refine g_icmp_ne (pc := 54) (tgt := 61) C h dX6_addTrill_54 (by decide) (fun h => ?_) (fun h => ?_)
  · refine g_iconst (pc := 61) (v := 0) C dX6_addTrill_61 (by decide) ?_
    refine g_weak (lv1 := [(0, .ref (ad X 8)), (2, .int v2), (3, .int v3), (4, .int w0)]) [1, 2, 3, 0] rfl ?_
    exact s_X6_addTrill_b62 C v2 v3 w0 0  S h
  · refine g_iconst (pc := 57) (v := 1) C dX6_addTrill_57 (by decide) ?_
    refine g_goto (pc := 58) (tgt := 62) C dX6_addTrill_58 (by decide) ?_
    refine g_weak (lv1 := [(0, .ref (ad X 8)), (2, .int v2), (3, .int v3), (4, .int w0)]) [1, 2, 3, 0] rfl ?_
    exact s_X6_addTrill_b62 C v2 v3 w0 1  S h
set_option maxRecDepth 100000 in
set_option maxHeartbeats 4000000 in
theorem s_X6_addTrill_b0 {X : MC} (C : Cx X cX6_addTrill RX6 wsX6_addTrill 7 rmX6_addTrill (some .boolean)) (S : St) {r0 : Int32 × St} (h : f_X6_addTrill_b0 S = some r0) : G X (QM mkI X r0) S 0 [(0, .ref (ad X 8)), (1, .ref (ad X 6))] [] := by
  unfold f_X6_addTrill_b0 at h
  refine g_aload_n (pc := 0) C dX6_addTrill_0 rfl 1 rfl ?_
  refine g_aload_n (pc := 1) C dX6_addTrill_1 rfl 0 rfl ?_
  refine g_get (pc := 2) C 8 (w_8 _ _) rfl 2 (Nat.le_of_ble_eq_true rfl) in_X6_X6_addTrill k77_X6_addTrill rfl dX6_addTrill_2 ?_
  refine g_bipush (pc := 5) (v := 7) C dX6_addTrill_5 (by decide) ?_
  refine g_callV (pc := 7) C 6 (c_X8_numberFor (Xl X) (Xb X) (gI S 13) 7 S) gX6_addTrill_X8_numberFor rfl rfl rfl hd_X8_numberFor ⟨Nat.le_of_ble_eq_true rfl, Nat.le_of_ble_eq_true rfl⟩ (w_6 _ _) rfl rfl rfl (Nat.le_of_ble_eq_true rfl) dX6_addTrill_7 h (fun r2 S1 h => ?_)
  change G X _ S1 10 [(0, .ref (ad X 8)), (1, .ref (ad X 6))] [.int r2]
  refine g_istore_n (pc := 10) C [(2, .int r2), (0, .ref (ad X 8)), (1, .ref (ad X 6))] dX6_addTrill_10 rfl (Nat.le_of_ble_eq_true rfl) rfl ?_
  refine g_aload_n (pc := 11) C dX6_addTrill_11 rfl 1 rfl ?_
  refine g_get (pc := 12) C 8 (w_8 _ _) rfl 7 (Nat.le_of_ble_eq_true rfl) in_X6_X6_addTrill k47_X6_addTrill rfl dX6_addTrill_12 ?_
  refine g_i2l (pc := 15) C dX6_addTrill_15 ?_
  refine g_iload_n (pc := 16) C dX6_addTrill_16 rfl 0 rfl ?_
  refine g_i2l (pc := 17) C dX6_addTrill_17 ?_
  refine g_callSN (pc := 18) C (c_X11_quotient (Xl X) (Xb X) (Int32.toInt64 (gI S1 18)) (Int32.toInt64 r2) S1) gX6_addTrill_X11_quotient_n162 rfl rfl rfl nw_X6_162 kiniX11_X6_addTrill kstX11_quotient_X6_addTrill hd_X11_quotient ⟨Nat.le_of_ble_eq_true rfl, Nat.le_of_ble_eq_true rfl⟩ rfl rfl (Nat.le_of_ble_eq_true rfl) dX6_addTrill_18 h (fun r4 S3 h => ?_)
  change G X _ S3 21 [(2, .int r2), (0, .ref (ad X 8)), (1, .ref (ad X 6))] [.int r4]
  refine g_istore_n (pc := 21) C [(3, .int r4), (2, .int r2), (0, .ref (ad X 8)), (1, .ref (ad X 6))] dX6_addTrill_21 rfl (Nat.le_of_ble_eq_true rfl) rfl ?_
  refine g_iload_n (pc := 22) C dX6_addTrill_22 rfl 0 rfl ?_
  refine g_iconst (pc := 23) (v := 2) C dX6_addTrill_23 (by decide) ?_
  refine g_icmp_ge (pc := 24) (tgt := 29) C h dX6_addTrill_24 (by decide) (fun h => ?_) (fun h => ?_)
  · refine g_aload_n (pc := 29) C dX6_addTrill_29 rfl 3 rfl ?_
    refine g_aload_n (pc := 30) C dX6_addTrill_30 rfl 2 rfl ?_
    refine g_get (pc := 31) C 8 (w_8 _ _) rfl 2 (Nat.le_of_ble_eq_true rfl) in_X6_X6_addTrill k77_X6_addTrill rfl dX6_addTrill_31 ?_
    refine g_bipush (pc := 34) (v := 8) C dX6_addTrill_34 (by decide) ?_
    refine g_callV (pc := 36) C 6 (c_X8_numberFor (Xl X) (Xb X) (gI S3 13) 8 S3) gX6_addTrill_X8_numberFor rfl rfl rfl hd_X8_numberFor ⟨Nat.le_of_ble_eq_true rfl, Nat.le_of_ble_eq_true rfl⟩ (w_6 _ _) rfl rfl rfl (Nat.le_of_ble_eq_true rfl) dX6_addTrill_36 h (fun r6 S5 h => ?_)
    change G X _ S5 39 [(3, .int r4), (2, .int r2), (0, .ref (ad X 8)), (1, .ref (ad X 6))] [.int r6]
    refine g_iconst (pc := 39) (v := 1) C dX6_addTrill_39 (by decide) ?_
    refine g_icmp_ne (pc := 40) (tgt := 47) C h dX6_addTrill_40 (by decide) (fun h => ?_) (fun h => ?_)
    · refine g_iconst (pc := 47) (v := 0) C dX6_addTrill_47 (by decide) ?_
      refine g_weak (lv1 := [(0, .ref (ad X 8)), (2, .int r2), (3, .int r4)]) [2, 1, 0] rfl ?_
      exact s_X6_addTrill_b48 C r2 r4 0  S5 h
    · refine g_iconst (pc := 43) (v := 1) C dX6_addTrill_43 (by decide) ?_
      refine g_goto (pc := 44) (tgt := 48) C dX6_addTrill_44 (by decide) ?_
      refine g_weak (lv1 := [(0, .ref (ad X 8)), (2, .int r2), (3, .int r4)]) [2, 1, 0] rfl ?_
      exact s_X6_addTrill_b48 C r2 r4 1  S5 h
  · refine g_iconst (pc := 27) (v := 0) C dX6_addTrill_27 (by decide) ?_
    exact g_zretc (pc := 28) C rfl h dX6_addTrill_28
theorem c_X6_addTrill (l : Launch) (b : Bw) (S : St) : Ct l b yX6_addTrill wsX6_addTrill rmX6_addTrill [.ref (bad b 8), .ref (bad b 6)] S mkI (f_X6_addTrill S) := Ct.of (by decide +kernel) rfl (Nat.le_of_ble_eq_true rfl) (fun X C hl hb r h => by
  subst hl; subst hb
  exact s_X6_addTrill_b0 C S h)
/-! StyleRows$Performer.addLean(LStyleRows$Rules;)V -/
set_option maxRecDepth 100000 in
set_option maxHeartbeats 4000000 in
theorem s_X6_addLean_b48 {X : MC} (C : Cx X cX6_addLean RX6 wsX6_addLean 3 rmX6_addLean none) (S : St) {r0 : Unit × St} (h : f_X6_addLean_b48 S = some r0) : G X (QM mkV X r0) S 48 [] [] := by
  unfold f_X6_addLean_b48 at h
  exact g_vret (pc := 48) C h dX6_addLean_48
set_option maxRecDepth 100000 in
set_option maxHeartbeats 4000000 in
theorem s_X6_addLean_b0 {X : MC} (C : Cx X cX6_addLean RX6 wsX6_addLean 3 rmX6_addLean none) (S : St) {r0 : Unit × St} (h : f_X6_addLean_b0 S = some r0) : G X (QM mkV X r0) S 0 [(0, .ref (ad X 8)), (1, .ref (ad X 6))] [] := by
  unfold f_X6_addLean_b0 at h
  refine g_aload_n (pc := 0) C dX6_addLean_0 rfl 1 rfl ?_
  refine g_aload_n (pc := 1) C dX6_addLean_1 rfl 0 rfl ?_
  refine g_get (pc := 2) C 8 (w_8 _ _) rfl 2 (Nat.le_of_ble_eq_true rfl) in_X6_X6_addLean k77_X6_addLean rfl dX6_addLean_2 ?_
  refine g_bipush (pc := 5) (v := 10) C dX6_addLean_5 (by decide) ?_
  refine g_callV (pc := 7) C 6 (c_X8_numberFor (Xl X) (Xb X) (gI S 13) 10 S) gX6_addLean_X8_numberFor rfl rfl rfl hd_X8_numberFor ⟨Nat.le_of_ble_eq_true rfl, Nat.le_of_ble_eq_true rfl⟩ (w_6 _ _) rfl rfl rfl (Nat.le_of_ble_eq_true rfl) dX6_addLean_7 h (fun r2 S1 h => ?_)
  change G X _ S1 10 [(0, .ref (ad X 8)), (1, .ref (ad X 6))] [.int r2]
  refine g_aload_n (pc := 10) C dX6_addLean_10 rfl 0 rfl ?_
  refine g_get (pc := 11) C 8 (w_8 _ _) rfl 7 (Nat.le_of_ble_eq_true rfl) in_X6_X6_addLean k47_X6_addLean rfl dX6_addLean_11 ?_
  refine g_iconst (pc := 14) (v := 2) C dX6_addLean_14 (by decide) ?_
  refine g_idiv (pc := 15) C h dX6_addLean_15 (fun h => ?_)
  refine g_mmin (pc := 16) C k103_X6_addLean kstmin_X6_addLean kini_X6_addLean kcomin_X6_addLean (Nat.le_of_ble_eq_true rfl) (Nat.le_of_ble_eq_true rfl) dX6_addLean_16 ?_
  refine g_leti h (fun x3 h => ?_)
  refine g_istore_n (pc := 19) C [(2, .int x3), (0, .ref (ad X 8)), (1, .ref (ad X 6))] dX6_addLean_19 rfl (Nat.le_of_ble_eq_true rfl) rfl ?_
  refine g_iload_n (pc := 20) C dX6_addLean_20 rfl 0 rfl ?_
  refine g_if_le (pc := 21) (tgt := 48) C h dX6_addLean_21 (by decide) (fun h => ?_) (fun h => ?_)
  · refine g_weak (lv1 := []) [] rfl ?_
    exact s_X6_addLean_b48 C   S1 h
  · refine g_aload_n (pc := 24) C dX6_addLean_24 rfl 1 rfl ?_
    refine g_iconst (pc := 25) (v := 1) C dX6_addLean_25 (by decide) ?_
    refine g_aload_n (pc := 26) C dX6_addLean_26 rfl 1 rfl ?_
    refine g_get (pc := 27) C 8 (w_8 _ _) rfl 3 (Nat.le_of_ble_eq_true rfl) in_X6_X6_addLean k83_X6_addLean rfl dX6_addLean_27 ?_
    refine g_iconst (pc := 30) (v := 2) C dX6_addLean_30 (by decide) ?_
    refine g_iadd (pc := 31) C dX6_addLean_31 ?_
    refine g_iconst (pc := 32) (v := 1) C dX6_addLean_32 (by decide) ?_
    refine g_aload_n (pc := 33) C dX6_addLean_33 rfl 1 rfl ?_
    refine g_get (pc := 34) C 8 (w_8 _ _) rfl 5 (Nat.le_of_ble_eq_true rfl) in_X6_X6_addLean k57_X6_addLean rfl dX6_addLean_34 ?_
    refine g_iconst (pc := 37) (v := 3) C dX6_addLean_37 (by decide) ?_
    refine g_imul (pc := 38) C dX6_addLean_38 ?_
    refine g_iconst (pc := 39) (v := 4) C dX6_addLean_39 (by decide) ?_
    refine g_idiv (pc := 40) C h dX6_addLean_40 (fun h => ?_)
    refine g_mmax (pc := 41) C k108_X6_addLean kstmax_X6_addLean kini_X6_addLean kcomax_X6_addLean (Nat.le_of_ble_eq_true rfl) (Nat.le_of_ble_eq_true rfl) dX6_addLean_41 ?_
    refine g_iload_n (pc := 44) C dX6_addLean_44 rfl 0 rfl ?_
    refine g_callV (pc := 45) C 8 (c_X6_addPart (Xl X) (Xb X) 1 ((gI S1 14) + 2) (imax 1 (((gI S1 16) * 3) / 4)) x3 S1) gX6_addLean_X6_addPart rfl rfl rfl hd_X6_addPart ⟨Nat.le_of_ble_eq_true rfl, Nat.le_of_ble_eq_true rfl⟩ (w_8 _ _) rfl rfl rfl (Nat.le_of_ble_eq_true rfl) dX6_addLean_45 h (fun _u4 S4 h => ?_)
    change G X _ S4 48 [(2, .int x3), (0, .ref (ad X 8)), (1, .ref (ad X 6))] []
    refine g_weak (lv1 := []) [] rfl ?_
    exact s_X6_addLean_b48 C   S4 h
theorem c_X6_addLean (l : Launch) (b : Bw) (S : St) : Ct l b yX6_addLean wsX6_addLean rmX6_addLean [.ref (bad b 8), .ref (bad b 6)] S mkV (f_X6_addLean S) := Ct.of (by decide +kernel) rfl (Nat.le_of_ble_eq_true rfl) (fun X C hl hb r h => by
  subst hl; subst hb
  exact s_X6_addLean_b0 C S h)
/-! StyleRows$Notes.isInChord(II)Z -/
set_option maxRecDepth 100000 in
set_option maxHeartbeats 4000000 in
theorem s_X4_isInChord_b57 {X : MC} (C : Cx X cX4_isInChord RX4 wsX4_isInChord 4 rmX4_isInChord (some .boolean)) (w0 : Int32) (S : St) {r0 : Int32 × St} (h : f_X4_isInChord_b57 w0 S = some r0) : G X (QM mkI X r0) S 57 [] [.int w0] := by
  unfold f_X4_isInChord_b57 at h
  exact g_zret (pc := 57) C h dX4_isInChord_57
set_option maxRecDepth 100000 in
set_option maxHeartbeats 4000000 in
theorem s_X4_isInChord_b56 {X : MC} (C : Cx X cX4_isInChord RX4 wsX4_isInChord 4 rmX4_isInChord (some .boolean)) (S : St) {r0 : Int32 × St} (h : f_X4_isInChord_b56 S = some r0) : G X (QM mkI X r0) S 56 [] [] := by
  unfold f_X4_isInChord_b56 at h
  refine g_iconst (pc := 56) (v := 0) C dX4_isInChord_56 (by decide) ?_
  refine g_weak (lv1 := []) [] rfl ?_
  exact s_X4_isInChord_b57 C 0  S h
set_option maxRecDepth 100000 in
set_option maxHeartbeats 4000000 in
theorem s_X4_isInChord_b17 {X : MC} (C : Cx X cX4_isInChord RX4 wsX4_isInChord 4 rmX4_isInChord (some .boolean)) (v1 : Int32) (v2 : Int32) (w0 : Int32) (S : St) {r0 : Int32 × St} (h : f_X4_isInChord_b17 v1 v2 w0 S = some r0) : G X (QM mkI X r0) S 17 [(0, .ref (ad X 2)), (1, .int v1), (2, .int v2)] [.int w0] := by
  unfold f_X4_isInChord_b17 at h
  refine g_istore_n (pc := 17) C [(3, .int w0), (0, .ref (ad X 2)), (1, .int v1), (2, .int v2)] dX4_isInChord_17 rfl (Nat.le_of_ble_eq_true rfl) rfl ?_
  refine g_iload_n (pc := 18) C dX4_isInChord_18 rfl 0 rfl ?_
  refine g_if_eq (pc := 19) (tgt := 56) C h dX4_isInChord_19 (by decide) (fun h => ?_) (fun h => ?_)
  · refine g_weak (lv1 := []) [] rfl ?_
    exact s_X4_isInChord_b56 C   S h
  · refine g_aload_n (pc := 22) C dX4_isInChord_22 rfl 1 rfl ?_
    refine g_get (pc := 23) C 2 (w_2 _ _) rfl 0 (Nat.le_of_ble_eq_true rfl) in_X4_X4_isInChord k11_X4_isInChord rfl dX4_isInChord_23 ?_
    refine g_iload_n (pc := 26) C dX4_isInChord_26 rfl 2 rfl ?_
    refine g_iald (pc := 27) C 13 (w_13 _ _) h dX4_isInChord_27 (fun h => ?_)
    refine g_aload_n (pc := 28) C dX4_isInChord_28 rfl 1 rfl ?_
    refine g_get (pc := 29) C 2 (w_2 _ _) rfl 0 (Nat.le_of_ble_eq_true rfl) in_X4_X4_isInChord k11_X4_isInChord rfl dX4_isInChord_29 ?_
    refine g_iload_n (pc := 32) C dX4_isInChord_32 rfl 3 rfl ?_
    refine g_iald (pc := 33) C 13 (w_13 _ _) h dX4_isInChord_33 (fun h => ?_)
    refine g_icmp_ne (pc := 34) (tgt := 56) C h dX4_isInChord_34 (by decide) (fun h => ?_) (fun h => ?_)
    · refine g_weak (lv1 := []) [] rfl ?_
      exact s_X4_isInChord_b56 C   S h
    · refine g_aload_n (pc := 37) C dX4_isInChord_37 rfl 1 rfl ?_
      refine g_get (pc := 38) C 2 (w_2 _ _) rfl 1 (Nat.le_of_ble_eq_true rfl) in_X4_X4_isInChord k15_X4_isInChord rfl dX4_isInChord_38 ?_
      refine g_iload_n (pc := 41) C dX4_isInChord_41 rfl 2 rfl ?_
      refine g_iald (pc := 42) C 14 (w_14 _ _) h dX4_isInChord_42 (fun h => ?_)
      refine g_aload_n (pc := 43) C dX4_isInChord_43 rfl 1 rfl ?_
      refine g_get (pc := 44) C 2 (w_2 _ _) rfl 1 (Nat.le_of_ble_eq_true rfl) in_X4_X4_isInChord k15_X4_isInChord rfl dX4_isInChord_44 ?_
      refine g_iload_n (pc := 47) C dX4_isInChord_47 rfl 3 rfl ?_
      refine g_iald (pc := 48) C 14 (w_14 _ _) h dX4_isInChord_48 (fun h => ?_)
      refine g_icmp_ne (pc := 49) (tgt := 56) C h dX4_isInChord_49 (by decide) (fun h => ?_) (fun h => ?_)
      · refine g_weak (lv1 := []) [] rfl ?_
        exact s_X4_isInChord_b56 C   S h
      · refine g_iconst (pc := 52) (v := 1) C dX4_isInChord_52 (by decide) ?_
        refine g_goto (pc := 53) (tgt := 57) C dX4_isInChord_53 (by decide) ?_
        refine g_weak (lv1 := []) [] rfl ?_
        exact s_X4_isInChord_b57 C 1  S h
set_option maxRecDepth 100000 in
set_option maxHeartbeats 4000000 in
theorem s_X4_isInChord_b0 {X : MC} (C : Cx X cX4_isInChord RX4 wsX4_isInChord 4 rmX4_isInChord (some .boolean)) (a1 : Int32) (a2 : Int32) (S : St) {r0 : Int32 × St} (h : f_X4_isInChord_b0 a1 a2 S = some r0) : G X (QM mkI X r0) S 0 [(0, .ref (ad X 2)), (1, .int a1), (2, .int a2)] [] := by
  unfold f_X4_isInChord_b0 at h
  refine g_aload_n (pc := 0) C dX4_isInChord_0 rfl 0 rfl ?_
  refine g_get (pc := 1) C 2 (w_2 _ _) rfl 4 (Nat.le_of_ble_eq_true rfl) in_X4_X4_isInChord k24_X4_isInChord rfl dX4_isInChord_1 ?_
  refine g_iload_n (pc := 4) C dX4_isInChord_4 rfl 1 rfl ?_
  refine g_iald (pc := 5) C 17 (w_17 _ _) h dX4_isInChord_5 (fun h => ?_)
  refine g_bipush (pc := 6) (v := 64) C dX4_isInChord_6 (by decide) ?_
  refine g_iand (pc := 8) C dX4_isInChord_8 ?_
  refine g_if_eq (pc := 9) (tgt := 16) C h dX4_isInChord_9 (by decide) (fun h => ?_) (fun h => ?_)
  · refine g_iconst (pc := 16) (v := 0) C dX4_isInChord_16 (by decide) ?_
    refine g_weak (lv1 := [(0, .ref (ad X 2)), (1, .int a1), (2, .int a2)]) [0, 1, 2] rfl ?_
    exact s_X4_isInChord_b17 C a1 a2 0  S h
  · refine g_iconst (pc := 12) (v := 1) C dX4_isInChord_12 (by decide) ?_
    refine g_goto (pc := 13) (tgt := 17) C dX4_isInChord_13 (by decide) ?_
    refine g_weak (lv1 := [(0, .ref (ad X 2)), (1, .int a1), (2, .int a2)]) [0, 1, 2] rfl ?_
    exact s_X4_isInChord_b17 C a1 a2 1  S h
theorem c_X4_isInChord (l : Launch) (b : Bw) (a1 : Int32) (a2 : Int32) (S : St) : Ct l b yX4_isInChord wsX4_isInChord rmX4_isInChord [.ref (bad b 2), .int a1, .int a2] S mkI (f_X4_isInChord a1 a2 S) := Ct.of (by decide +kernel) rfl (Nat.le_of_ble_eq_true rfl) (fun X C hl hb r h => by
  subst hl; subst hb
  exact s_X4_isInChord_b0 C a1 a2 S h)
/-! StyleRows$Notes.isLower(II)Z -/
set_option maxRecDepth 100000 in
set_option maxHeartbeats 4000000 in
theorem s_X4_isLower_b40 {X : MC} (C : Cx X cX4_isLower RX4 wsX4_isLower 3 rmX4_isLower (some .boolean)) (w0 : Int32) (S : St) {r0 : Int32 × St} (h : f_X4_isLower_b40 w0 S = some r0) : G X (QM mkI X r0) S 40 [] [.int w0] := by
  unfold f_X4_isLower_b40 at h
  exact g_zret (pc := 40) C h dX4_isLower_40
set_option maxRecDepth 100000 in
set_option maxHeartbeats 4000000 in
theorem s_X4_isLower_b35 {X : MC} (C : Cx X cX4_isLower RX4 wsX4_isLower 3 rmX4_isLower (some .boolean)) (S : St) {r0 : Int32 × St} (h : f_X4_isLower_b35 S = some r0) : G X (QM mkI X r0) S 35 [] [] := by
  unfold f_X4_isLower_b35 at h
  refine g_iconst (pc := 35) (v := 1) C dX4_isLower_35 (by decide) ?_
  refine g_goto (pc := 36) (tgt := 40) C dX4_isLower_36 (by decide) ?_
  refine g_weak (lv1 := []) [] rfl ?_
  exact s_X4_isLower_b40 C 1  S h
set_option maxRecDepth 100000 in
set_option maxHeartbeats 4000000 in
theorem s_X4_isLower_b39 {X : MC} (C : Cx X cX4_isLower RX4 wsX4_isLower 3 rmX4_isLower (some .boolean)) (S : St) {r0 : Int32 × St} (h : f_X4_isLower_b39 S = some r0) : G X (QM mkI X r0) S 39 [] [] := by
  unfold f_X4_isLower_b39 at h
  refine g_iconst (pc := 39) (v := 0) C dX4_isLower_39 (by decide) ?_
  refine g_weak (lv1 := []) [] rfl ?_
  exact s_X4_isLower_b40 C 0  S h
set_option maxRecDepth 100000 in
set_option maxHeartbeats 4000000 in
theorem s_X4_isLower_b0 {X : MC} (C : Cx X cX4_isLower RX4 wsX4_isLower 3 rmX4_isLower (some .boolean)) (a1 : Int32) (a2 : Int32) (S : St) {r0 : Int32 × St} (h : f_X4_isLower_b0 a1 a2 S = some r0) : G X (QM mkI X r0) S 0 [(0, .ref (ad X 2)), (1, .int a1), (2, .int a2)] [] := by
  unfold f_X4_isLower_b0 at h
  refine g_aload_n (pc := 0) C dX4_isLower_0 rfl 0 rfl ?_
  refine g_get (pc := 1) C 2 (w_2 _ _) rfl 3 (Nat.le_of_ble_eq_true rfl) in_X4_X4_isLower k21_X4_isLower rfl dX4_isLower_1 ?_
  refine g_iload_n (pc := 4) C dX4_isLower_4 rfl 1 rfl ?_
  refine g_iald (pc := 5) C 16 (w_16 _ _) h dX4_isLower_5 (fun h => ?_)
  refine g_aload_n (pc := 6) C dX4_isLower_6 rfl 0 rfl ?_
  refine g_get (pc := 7) C 2 (w_2 _ _) rfl 3 (Nat.le_of_ble_eq_true rfl) in_X4_X4_isLower k21_X4_isLower rfl dX4_isLower_7 ?_
  refine g_iload_n (pc := 10) C dX4_isLower_10 rfl 2 rfl ?_
  refine g_iald (pc := 11) C 16 (w_16 _ _) h dX4_isLower_11 (fun h => ?_)
  refine g_icmp_lt (pc := 12) (tgt := 35) C h dX4_isLower_12 (by decide) (fun h => ?_) (fun h => ?_)
  · refine g_weak (lv1 := []) [] rfl ?_
    exact s_X4_isLower_b35 C   S h
  · refine g_aload_n (pc := 15) C dX4_isLower_15 rfl 0 rfl ?_
    refine g_get (pc := 16) C 2 (w_2 _ _) rfl 3 (Nat.le_of_ble_eq_true rfl) in_X4_X4_isLower k21_X4_isLower rfl dX4_isLower_16 ?_
    refine g_iload_n (pc := 19) C dX4_isLower_19 rfl 1 rfl ?_
    refine g_iald (pc := 20) C 16 (w_16 _ _) h dX4_isLower_20 (fun h => ?_)
    refine g_aload_n (pc := 21) C dX4_isLower_21 rfl 0 rfl ?_
    refine g_get (pc := 22) C 2 (w_2 _ _) rfl 3 (Nat.le_of_ble_eq_true rfl) in_X4_X4_isLower k21_X4_isLower rfl dX4_isLower_22 ?_
    refine g_iload_n (pc := 25) C dX4_isLower_25 rfl 2 rfl ?_
    refine g_iald (pc := 26) C 16 (w_16 _ _) h dX4_isLower_26 (fun h => ?_)
    refine g_icmp_ne (pc := 27) (tgt := 39) C h dX4_isLower_27 (by decide) (fun h => ?_) (fun h => ?_)
    · refine g_weak (lv1 := []) [] rfl ?_
      exact s_X4_isLower_b39 C   S h
    · refine g_iload_n (pc := 30) C dX4_isLower_30 rfl 1 rfl ?_
      refine g_iload_n (pc := 31) C dX4_isLower_31 rfl 2 rfl ?_
      refine g_icmp_ge (pc := 32) (tgt := 39) C h dX4_isLower_32 (by decide) (fun h => ?_) (fun h => ?_)
      · refine g_weak (lv1 := []) [] rfl ?_
        exact s_X4_isLower_b39 C   S h
      · refine g_weak (lv1 := []) [] rfl ?_
        exact s_X4_isLower_b35 C   S h
theorem c_X4_isLower (l : Launch) (b : Bw) (a1 : Int32) (a2 : Int32) (S : St) : Ct l b yX4_isLower wsX4_isLower rmX4_isLower [.ref (bad b 2), .int a1, .int a2] S mkI (f_X4_isLower a1 a2 S) := Ct.of (by decide +kernel) rfl (Nat.le_of_ble_eq_true rfl) (fun X C hl hb r h => by
  subst hl; subst hb
  exact s_X4_isLower_b0 C a1 a2 S h)
/-! StyleRows$Notes.rolledAhead(I)I -/
set_option maxRecDepth 100000 in
set_option maxHeartbeats 4000000 in
theorem s_X4_rolledAhead_b33 {X : MC} (C : Cx X cX4_rolledAhead RX4 wsX4_rolledAhead 4 rmX4_rolledAhead (some .int)) {rec4 : Int32 × Int32 × St → Option (Int32 × St)} (v1 : Int32) (v2 : Int32) (v3 : Int32) (hrec4 : ∀ (s : Int32 × Int32 × St) (r : Int32 × St), rec4 s = some r → G X (QM mkI X r) s.2.2 4 [(0, .ref (ad X 2)), (1, .int v1), (2, .int (s.1)), (3, .int (s.2.1))] []) (S : St) {r0 : Int32 × St} (h : f_X4_rolledAhead_b33 rec4 v1 v2 v3 S = some r0) : G X (QM mkI X r0) S 33 [(0, .ref (ad X 2)), (1, .int v1), (2, .int v2), (3, .int v3)] [] := by
  unfold f_X4_rolledAhead_b33 at h
  refine g_iinc (pc := 33) (v := v3 + 1) C [(3, .int (v3 + 1)), (0, .ref (ad X 2)), (1, .int v1), (2, .int v2)] dX4_rolledAhead_33 3 rfl rfl (Nat.le_of_ble_eq_true rfl) rfl ?_
  refine g_goto (pc := 36) (tgt := 4) C dX4_rolledAhead_36 (by decide) ?_
  refine g_weak (lv1 := [(0, .ref (ad X 2)), (1, .int v1), (2, .int v2), (3, .int (v3 + 1))]) [1, 2, 3, 0] rfl ?_
  exact hrec4 (v2, v3 + 1, S) _ h
set_option maxRecDepth 100000 in
set_option maxHeartbeats 4000000 in
theorem s_X4_rolledAhead_b4 {X : MC} (C : Cx X cX4_rolledAhead RX4 wsX4_rolledAhead 4 rmX4_rolledAhead (some .int)) {rec4 : Int32 × Int32 × St → Option (Int32 × St)} (v1 : Int32) (v2 : Int32) (v3 : Int32) (hrec4 : ∀ (s : Int32 × Int32 × St) (r : Int32 × St), rec4 s = some r → G X (QM mkI X r) s.2.2 4 [(0, .ref (ad X 2)), (1, .int v1), (2, .int (s.1)), (3, .int (s.2.1))] []) (S : St) {r0 : Int32 × St} (h : f_X4_rolledAhead_b4 rec4 v1 v2 v3 S = some r0) : G X (QM mkI X r0) S 4 [(0, .ref (ad X 2)), (1, .int v1), (2, .int v2), (3, .int v3)] [] := by
  unfold f_X4_rolledAhead_b4 at h
  refine g_iload_n (pc := 4) C dX4_rolledAhead_4 rfl 3 rfl ?_
  refine g_aload_n (pc := 5) C dX4_rolledAhead_5 rfl 0 rfl ?_
  refine g_get (pc := 6) C 2 (w_2 _ _) rfl 5 (Nat.le_of_ble_eq_true rfl) in_X4_X4_rolledAhead k27_X4_rolledAhead rfl dX4_rolledAhead_6 ?_
  refine g_icmp_ge (pc := 9) (tgt := 39) C h dX4_rolledAhead_9 (by decide) (fun h => ?_) (fun h => ?_)
  · refine g_iload_n (pc := 39) C dX4_rolledAhead_39 rfl 2 rfl ?_
    exact g_iret (pc := 40) C h dX4_rolledAhead_40
  · refine g_aload_n (pc := 12) C dX4_rolledAhead_12 rfl 0 rfl ?_
    refine g_iload_n (pc := 13) C dX4_rolledAhead_13 rfl 3 rfl ?_
    refine g_iload_n (pc := 14) C dX4_rolledAhead_14 rfl 1 rfl ?_
    refine g_callV (pc := 15) C 2 (c_X4_isInChord (Xl X) (Xb X) v3 v1 S) gX4_rolledAhead_X4_isInChord rfl rfl rfl hd_X4_isInChord ⟨Nat.le_of_ble_eq_true rfl, Nat.le_of_ble_eq_true rfl⟩ (w_2 _ _) rfl rfl rfl (Nat.le_of_ble_eq_true rfl) dX4_rolledAhead_15 h (fun r2 S1 h => ?_)
    change G X _ S1 18 [(0, .ref (ad X 2)), (1, .int v1), (2, .int v2), (3, .int v3)] [.int r2]
    refine g_if_eq (pc := 18) (tgt := 33) C h dX4_rolledAhead_18 (by decide) (fun h => ?_) (fun h => ?_)
    · refine g_weak (lv1 := [(0, .ref (ad X 2)), (1, .int v1), (2, .int v2), (3, .int v3)]) [0, 1, 2, 3] rfl ?_
      exact s_X4_rolledAhead_b33 C v1 v2 v3 hrec4  S1 h
    · refine g_aload_n (pc := 21) C dX4_rolledAhead_21 rfl 0 rfl ?_
      refine g_iload_n (pc := 22) C dX4_rolledAhead_22 rfl 3 rfl ?_
      refine g_iload_n (pc := 23) C dX4_rolledAhead_23 rfl 1 rfl ?_
      refine g_callV (pc := 24) C 2 (c_X4_isLower (Xl X) (Xb X) v3 v1 S1) gX4_rolledAhead_X4_isLower rfl rfl rfl hd_X4_isLower ⟨Nat.le_of_ble_eq_true rfl, Nat.le_of_ble_eq_true rfl⟩ (w_2 _ _) rfl rfl rfl (Nat.le_of_ble_eq_true rfl) dX4_rolledAhead_24 h (fun r4 S3 h => ?_)
      change G X _ S3 27 [(0, .ref (ad X 2)), (1, .int v1), (2, .int v2), (3, .int v3)] [.int r4]
      refine g_if_eq (pc := 27) (tgt := 33) C h dX4_rolledAhead_27 (by decide) (fun h => ?_) (fun h => ?_)
      · refine g_weak (lv1 := [(0, .ref (ad X 2)), (1, .int v1), (2, .int v2), (3, .int v3)]) [0, 1, 2, 3] rfl ?_
        exact s_X4_rolledAhead_b33 C v1 v2 v3 hrec4  S3 h
      · refine g_iinc (pc := 30) (v := v2 + 1) C [(2, .int (v2 + 1)), (0, .ref (ad X 2)), (1, .int v1), (3, .int v3)] dX4_rolledAhead_30 2 rfl rfl (Nat.le_of_ble_eq_true rfl) rfl ?_
        refine g_weak (lv1 := [(0, .ref (ad X 2)), (1, .int v1), (2, .int (v2 + 1)), (3, .int v3)]) [1, 2, 0, 3] rfl ?_
        exact s_X4_rolledAhead_b33 C v1 (v2 + 1) v3 hrec4  S3 h
set_option maxRecDepth 100000 in
set_option maxHeartbeats 4000000 in
theorem s_X4_rolledAhead_l4 {X : MC} (C : Cx X cX4_rolledAhead RX4 wsX4_rolledAhead 4 rmX4_rolledAhead (some .int)) (v1 : Int32) : ∀ (n : Nat) (s : Int32 × Int32 × St) (r : Int32 × St), f_X4_rolledAhead_l4 v1 n s = some r → G X (QM mkI X r) s.2.2 4 [(0, .ref (ad X 2)), (1, .int v1), (2, .int (s.1)), (3, .int (s.2.1))] [] :=
  loop_sound (fun rec4 hrec4 s r h => s_X4_rolledAhead_b4 C v1 s.1 s.2.1 hrec4 s.2.2 h)
set_option maxRecDepth 100000 in
set_option maxHeartbeats 4000000 in
theorem s_X4_rolledAhead_b0 {X : MC} (C : Cx X cX4_rolledAhead RX4 wsX4_rolledAhead 4 rmX4_rolledAhead (some .int)) (a1 : Int32) (S : St) {r0 : Int32 × St} (h : f_X4_rolledAhead_b0 a1 S = some r0) : G X (QM mkI X r0) S 0 [(0, .ref (ad X 2)), (1, .int a1)] [] := by
  unfold f_X4_rolledAhead_b0 at h
  refine g_iconst (pc := 0) (v := 0) C dX4_rolledAhead_0 (by decide) ?_
  refine g_istore_n (pc := 1) C [(2, .int 0), (0, .ref (ad X 2)), (1, .int a1)] dX4_rolledAhead_1 rfl (Nat.le_of_ble_eq_true rfl) rfl ?_
  refine g_iconst (pc := 2) (v := 0) C dX4_rolledAhead_2 (by decide) ?_
  refine g_istore_n (pc := 3) C [(3, .int 0), (2, .int 0), (0, .ref (ad X 2)), (1, .int a1)] dX4_rolledAhead_3 rfl (Nat.le_of_ble_eq_true rfl) rfl ?_
  refine g_weak (lv1 := [(0, .ref (ad X 2)), (1, .int a1), (2, .int 0), (3, .int 0)]) [2, 3, 1, 0] rfl ?_
  exact s_X4_rolledAhead_l4 C a1 _ (0, 0, S) _ h
theorem c_X4_rolledAhead (l : Launch) (b : Bw) (a1 : Int32) (S : St) : Ct l b yX4_rolledAhead wsX4_rolledAhead rmX4_rolledAhead [.ref (bad b 2), .int a1] S mkI (f_X4_rolledAhead a1 S) := Ct.of (by decide +kernel) rfl (Nat.le_of_ble_eq_true rfl) (fun X C hl hb r h => by
  subst hl; subst hb
  exact s_X4_rolledAhead_b0 C a1 S h)
/-! StyleRows$Performer.roll(LStyleRows$Notes;LStyleRows$Rules;)V -/
set_option maxRecDepth 100000 in
set_option maxHeartbeats 4000000 in
theorem s_X6_roll_b0 {X : MC} (C : Cx X cX6_roll RX6 wsX6_roll 4 rmX6_roll none) (S : St) {r0 : Unit × St} (h : f_X6_roll_b0 S = some r0) : G X (QM mkV X r0) S 0 [(0, .ref (ad X 8)), (1, .ref (ad X 2)), (2, .ref (ad X 6))] [] := by
  unfold f_X6_roll_b0 at h
  refine g_aload_n (pc := 0) C dX6_roll_0 rfl 1 rfl ?_
  refine g_aload_n (pc := 1) C dX6_roll_1 rfl 0 rfl ?_
  refine g_get (pc := 2) C 8 (w_8 _ _) rfl 1 (Nat.le_of_ble_eq_true rfl) in_X6_X6_roll k71_X6_roll rfl dX6_roll_2 ?_
  refine g_callV (pc := 5) C 2 (c_X4_rolledAhead (Xl X) (Xb X) (gI S 12) S) gX6_roll_X4_rolledAhead rfl rfl rfl hd_X4_rolledAhead ⟨Nat.le_of_ble_eq_true rfl, Nat.le_of_ble_eq_true rfl⟩ (w_2 _ _) rfl rfl rfl (Nat.le_of_ble_eq_true rfl) dX6_roll_5 h (fun r2 S1 h => ?_)
  change G X _ S1 8 [(0, .ref (ad X 8)), (1, .ref (ad X 2)), (2, .ref (ad X 6))] [.int r2]
  refine g_aload_n (pc := 8) C dX6_roll_8 rfl 2 rfl ?_
  refine g_aload_n (pc := 9) C dX6_roll_9 rfl 0 rfl ?_
  refine g_get (pc := 10) C 8 (w_8 _ _) rfl 2 (Nat.le_of_ble_eq_true rfl) in_X6_X6_roll k77_X6_roll rfl dX6_roll_10 ?_
  refine g_bipush (pc := 13) (v := 11) C dX6_roll_13 (by decide) ?_
  refine g_callV (pc := 15) C 6 (c_X8_numberFor (Xl X) (Xb X) (gI S1 13) 11 S1) gX6_roll_X8_numberFor rfl rfl rfl hd_X8_numberFor ⟨Nat.le_of_ble_eq_true rfl, Nat.le_of_ble_eq_true rfl⟩ (w_6 _ _) rfl rfl rfl (Nat.le_of_ble_eq_true rfl) dX6_roll_15 h (fun r4 S3 h => ?_)
  change G X _ S3 18 [(0, .ref (ad X 8)), (1, .ref (ad X 2)), (2, .ref (ad X 6))] [.int r4, .int r2]
  refine g_imul (pc := 18) C dX6_roll_18 ?_
  refine g_aload_n (pc := 19) C dX6_roll_19 rfl 0 rfl ?_
  refine g_get (pc := 20) C 8 (w_8 _ _) rfl 7 (Nat.le_of_ble_eq_true rfl) in_X6_X6_roll k47_X6_roll rfl dX6_roll_20 ?_
  refine g_iconst (pc := 23) (v := 1) C dX6_roll_23 (by decide) ?_
  refine g_isub (pc := 24) C dX6_roll_24 ?_
  refine g_mmin (pc := 25) C k103_X6_roll kstmin_X6_roll kini_X6_roll kcomin_X6_roll (Nat.le_of_ble_eq_true rfl) (Nat.le_of_ble_eq_true rfl) dX6_roll_25 ?_
  refine g_leti h (fun x5 h => ?_)
  refine g_istore_n (pc := 28) C [(3, .int x5), (0, .ref (ad X 8)), (1, .ref (ad X 2)), (2, .ref (ad X 6))] dX6_roll_28 rfl (Nat.le_of_ble_eq_true rfl) rfl ?_
  refine g_aload_n (pc := 29) C dX6_roll_29 rfl 1 rfl ?_
  refine g_dup (pc := 30) C dX6_roll_30 rfl ?_
  refine g_get (pc := 31) C 8 (w_8 _ _) rfl 6 (Nat.le_of_ble_eq_true rfl) in_X6_X6_roll k64_X6_roll rfl dX6_roll_31 ?_
  refine g_iload_n (pc := 34) C dX6_roll_34 rfl 0 rfl ?_
  refine g_iadd (pc := 35) C dX6_roll_35 ?_
  refine g_put (pc := 36) C 8 (w_8 _ _) rfl 6 (Nat.le_of_ble_eq_true rfl) in_X6_X6_roll tyX6_ok nmX6 k64_X6_roll rfl rfl rfl (Nat.le_of_ble_eq_true rfl) (ws_8_6 _ _ _) dX6_roll_36 h (fun S6 h => ?_)
  refine g_aload_n (pc := 39) C dX6_roll_39 rfl 1 rfl ?_
  refine g_dup (pc := 40) C dX6_roll_40 rfl ?_
  refine g_get (pc := 41) C 8 (w_8 _ _) rfl 7 (Nat.le_of_ble_eq_true rfl) in_X6_X6_roll k47_X6_roll rfl dX6_roll_41 ?_
  refine g_iload_n (pc := 44) C dX6_roll_44 rfl 0 rfl ?_
  refine g_isub (pc := 45) C dX6_roll_45 ?_
  refine g_put (pc := 46) C 8 (w_8 _ _) rfl 7 (Nat.le_of_ble_eq_true rfl) in_X6_X6_roll tyX6_ok nmX6 k47_X6_roll rfl rfl rfl (Nat.le_of_ble_eq_true rfl) (ws_8_7 _ _ _) dX6_roll_46 h (fun S7 h => ?_)
  exact g_vret (pc := 49) C h dX6_roll_49
theorem c_X6_roll (l : Launch) (b : Bw) (S : St) : Ct l b yX6_roll wsX6_roll rmX6_roll [.ref (bad b 8), .ref (bad b 2), .ref (bad b 6)] S mkV (f_X6_roll S) := Ct.of (by decide +kernel) rfl (Nat.le_of_ble_eq_true rfl) (fun X C hl hb r h => by
  subst hl; subst hb
  exact s_X6_roll_b0 C S h)
/-! StyleRows$Performer.addParts(LStyleRows$Notes;LStyleRows$Rules;)V -/
set_option maxRecDepth 100000 in
set_option maxHeartbeats 4000000 in
theorem s_X6_addParts_b65 {X : MC} (C : Cx X cX6_addParts RX6 wsX6_addParts 3 rmX6_addParts none) (S : St) {r0 : Unit × St} (h : f_X6_addParts_b65 S = some r0) : G X (QM mkV X r0) S 65 [(0, .ref (ad X 8))] [] := by
  unfold f_X6_addParts_b65 at h
  refine g_aload_n (pc := 65) C dX6_addParts_65 rfl 0 rfl ?_
  refine g_iconst (pc := 66) (v := 0) C dX6_addParts_66 (by decide) ?_
  refine g_aload_n (pc := 67) C dX6_addParts_67 rfl 0 rfl ?_
  refine g_get (pc := 68) C 8 (w_8 _ _) rfl 3 (Nat.le_of_ble_eq_true rfl) in_X6_X6_addParts k83_X6_addParts rfl dX6_addParts_68 ?_
  refine g_aload_n (pc := 71) C dX6_addParts_71 rfl 0 rfl ?_
  refine g_get (pc := 72) C 8 (w_8 _ _) rfl 5 (Nat.le_of_ble_eq_true rfl) in_X6_X6_addParts k57_X6_addParts rfl dX6_addParts_72 ?_
  refine g_aload_n (pc := 75) C dX6_addParts_75 rfl 0 rfl ?_
  refine g_get (pc := 76) C 8 (w_8 _ _) rfl 7 (Nat.le_of_ble_eq_true rfl) in_X6_X6_addParts k47_X6_addParts rfl dX6_addParts_76 ?_
  refine g_callV (pc := 79) C 8 (c_X6_addPart (Xl X) (Xb X) 0 (gI S 14) (gI S 16) (gI S 18) S) gX6_addParts_X6_addPart rfl rfl rfl hd_X6_addPart ⟨Nat.le_of_ble_eq_true rfl, Nat.le_of_ble_eq_true rfl⟩ (w_8 _ _) rfl rfl rfl (Nat.le_of_ble_eq_true rfl) dX6_addParts_79 h (fun _u9 S9 h => ?_)
  change G X _ S9 82 [(0, .ref (ad X 8))] []
  exact g_vret (pc := 82) C h dX6_addParts_82
set_option maxRecDepth 100000 in
set_option maxHeartbeats 4000000 in
theorem s_X6_addParts_b47 {X : MC} (C : Cx X cX6_addParts RX6 wsX6_addParts 3 rmX6_addParts none) (S : St) {r0 : Unit × St} (h : f_X6_addParts_b47 S = some r0) : G X (QM mkV X r0) S 47 [(0, .ref (ad X 8)), (2, .ref (ad X 6))] [] := by
  unfold f_X6_addParts_b47 at h
  refine g_aload_n (pc := 47) C dX6_addParts_47 rfl 0 rfl ?_
  refine g_bipush (pc := 48) (v := 16) C dX6_addParts_48 (by decide) ?_
  refine g_callV (pc := 50) C 8 (c_X6_isMarked (Xl X) (Xb X) 16 S) gX6_addParts_X6_isMarked rfl rfl rfl hd_X6_isMarked ⟨Nat.le_of_ble_eq_true rfl, Nat.le_of_ble_eq_true rfl⟩ (w_8 _ _) rfl rfl rfl (Nat.le_of_ble_eq_true rfl) dX6_addParts_50 h (fun r8 S7 h => ?_)
  change G X _ S7 53 [(0, .ref (ad X 8)), (2, .ref (ad X 6))] [.int r8]
  refine g_if_eq (pc := 53) (tgt := 65) C h dX6_addParts_53 (by decide) (fun h => ?_) (fun h => ?_)
  · refine g_weak (lv1 := [(0, .ref (ad X 8))]) [0] rfl ?_
    exact s_X6_addParts_b65 C   S7 h
  · refine g_aload_n (pc := 56) C dX6_addParts_56 rfl 0 rfl ?_
    refine g_aload_n (pc := 57) C dX6_addParts_57 rfl 1 rfl ?_
    refine g_callV (pc := 58) C 8 (c_X6_addTurn (Xl X) (Xb X) S7) gX6_addParts_X6_addTurn rfl rfl rfl hd_X6_addTurn ⟨Nat.le_of_ble_eq_true rfl, Nat.le_of_ble_eq_true rfl⟩ (w_8 _ _) rfl rfl rfl (Nat.le_of_ble_eq_true rfl) dX6_addParts_58 h (fun r11 S10 h => ?_)
    change G X _ S10 61 [(0, .ref (ad X 8)), (2, .ref (ad X 6))] [.int r11]
    refine g_if_eq (pc := 61) (tgt := 65) C h dX6_addParts_61 (by decide) (fun h => ?_) (fun h => ?_)
    · refine g_weak (lv1 := [(0, .ref (ad X 8))]) [0] rfl ?_
      exact s_X6_addParts_b65 C   S10 h
    · exact g_vret (pc := 64) C h dX6_addParts_64
set_option maxRecDepth 100000 in
set_option maxHeartbeats 4000000 in
theorem s_X6_addParts_b29 {X : MC} (C : Cx X cX6_addParts RX6 wsX6_addParts 3 rmX6_addParts none) (S : St) {r0 : Unit × St} (h : f_X6_addParts_b29 S = some r0) : G X (QM mkV X r0) S 29 [(0, .ref (ad X 8)), (2, .ref (ad X 6))] [] := by
  unfold f_X6_addParts_b29 at h
  refine g_aload_n (pc := 29) C dX6_addParts_29 rfl 0 rfl ?_
  refine g_bipush (pc := 30) (v := 8) C dX6_addParts_30 (by decide) ?_
  refine g_callV (pc := 32) C 8 (c_X6_isMarked (Xl X) (Xb X) 8 S) gX6_addParts_X6_isMarked rfl rfl rfl hd_X6_isMarked ⟨Nat.le_of_ble_eq_true rfl, Nat.le_of_ble_eq_true rfl⟩ (w_8 _ _) rfl rfl rfl (Nat.le_of_ble_eq_true rfl) dX6_addParts_32 h (fun r6 S5 h => ?_)
  change G X _ S5 35 [(0, .ref (ad X 8)), (2, .ref (ad X 6))] [.int r6]
  refine g_if_eq (pc := 35) (tgt := 47) C h dX6_addParts_35 (by decide) (fun h => ?_) (fun h => ?_)
  · refine g_weak (lv1 := [(0, .ref (ad X 8)), (2, .ref (ad X 6))]) [0, 1] rfl ?_
    exact s_X6_addParts_b47 C   S5 h
  · refine g_aload_n (pc := 38) C dX6_addParts_38 rfl 0 rfl ?_
    refine g_aload_n (pc := 39) C dX6_addParts_39 rfl 1 rfl ?_
    refine g_callV (pc := 40) C 8 (c_X6_addTrill (Xl X) (Xb X) S5) gX6_addParts_X6_addTrill rfl rfl rfl hd_X6_addTrill ⟨Nat.le_of_ble_eq_true rfl, Nat.le_of_ble_eq_true rfl⟩ (w_8 _ _) rfl rfl rfl (Nat.le_of_ble_eq_true rfl) dX6_addParts_40 h (fun r13 S12 h => ?_)
    change G X _ S12 43 [(0, .ref (ad X 8)), (2, .ref (ad X 6))] [.int r13]
    refine g_if_eq (pc := 43) (tgt := 47) C h dX6_addParts_43 (by decide) (fun h => ?_) (fun h => ?_)
    · refine g_weak (lv1 := [(0, .ref (ad X 8)), (2, .ref (ad X 6))]) [0, 1] rfl ?_
      exact s_X6_addParts_b47 C   S12 h
    · exact g_vret (pc := 46) C h dX6_addParts_46
set_option maxRecDepth 100000 in
set_option maxHeartbeats 4000000 in
theorem s_X6_addParts_b15 {X : MC} (C : Cx X cX6_addParts RX6 wsX6_addParts 3 rmX6_addParts none) (S : St) {r0 : Unit × St} (h : f_X6_addParts_b15 S = some r0) : G X (QM mkV X r0) S 15 [(0, .ref (ad X 8)), (2, .ref (ad X 6))] [] := by
  unfold f_X6_addParts_b15 at h
  refine g_aload_n (pc := 15) C dX6_addParts_15 rfl 0 rfl ?_
  refine g_bipush (pc := 16) (v := 32) C dX6_addParts_16 (by decide) ?_
  refine g_callV (pc := 18) C 8 (c_X6_isMarked (Xl X) (Xb X) 32 S) gX6_addParts_X6_isMarked rfl rfl rfl hd_X6_isMarked ⟨Nat.le_of_ble_eq_true rfl, Nat.le_of_ble_eq_true rfl⟩ (w_8 _ _) rfl rfl rfl (Nat.le_of_ble_eq_true rfl) dX6_addParts_18 h (fun r4 S3 h => ?_)
  change G X _ S3 21 [(0, .ref (ad X 8)), (2, .ref (ad X 6))] [.int r4]
  refine g_if_eq (pc := 21) (tgt := 29) C h dX6_addParts_21 (by decide) (fun h => ?_) (fun h => ?_)
  · refine g_weak (lv1 := [(0, .ref (ad X 8)), (2, .ref (ad X 6))]) [0, 1] rfl ?_
    exact s_X6_addParts_b29 C   S3 h
  · refine g_aload_n (pc := 24) C dX6_addParts_24 rfl 0 rfl ?_
    refine g_aload_n (pc := 25) C dX6_addParts_25 rfl 1 rfl ?_
    refine g_callV (pc := 26) C 8 (c_X6_addLean (Xl X) (Xb X) S3) gX6_addParts_X6_addLean rfl rfl rfl hd_X6_addLean ⟨Nat.le_of_ble_eq_true rfl, Nat.le_of_ble_eq_true rfl⟩ (w_8 _ _) rfl rfl rfl (Nat.le_of_ble_eq_true rfl) dX6_addParts_26 h (fun _u14 S14 h => ?_)
    change G X _ S14 29 [(0, .ref (ad X 8)), (2, .ref (ad X 6))] []
    refine g_weak (lv1 := [(0, .ref (ad X 8)), (2, .ref (ad X 6))]) [0, 1] rfl ?_
    exact s_X6_addParts_b29 C   S14 h
set_option maxRecDepth 100000 in
set_option maxHeartbeats 4000000 in
theorem s_X6_addParts_b0 {X : MC} (C : Cx X cX6_addParts RX6 wsX6_addParts 3 rmX6_addParts none) (S : St) {r0 : Unit × St} (h : f_X6_addParts_b0 S = some r0) : G X (QM mkV X r0) S 0 [(0, .ref (ad X 8)), (1, .ref (ad X 2)), (2, .ref (ad X 6))] [] := by
  unfold f_X6_addParts_b0 at h
  refine g_aload_n (pc := 0) C dX6_addParts_0 rfl 0 rfl ?_
  refine g_bipush (pc := 1) (v := 64) C dX6_addParts_1 (by decide) ?_
  refine g_callV (pc := 3) C 8 (c_X6_isMarked (Xl X) (Xb X) 64 S) gX6_addParts_X6_isMarked rfl rfl rfl hd_X6_isMarked ⟨Nat.le_of_ble_eq_true rfl, Nat.le_of_ble_eq_true rfl⟩ (w_8 _ _) rfl rfl rfl (Nat.le_of_ble_eq_true rfl) dX6_addParts_3 h (fun r2 S1 h => ?_)
  change G X _ S1 6 [(0, .ref (ad X 8)), (1, .ref (ad X 2)), (2, .ref (ad X 6))] [.int r2]
  refine g_if_eq (pc := 6) (tgt := 15) C h dX6_addParts_6 (by decide) (fun h => ?_) (fun h => ?_)
  · refine g_weak (lv1 := [(0, .ref (ad X 8)), (2, .ref (ad X 6))]) [0, 2] rfl ?_
    exact s_X6_addParts_b15 C   S1 h
  · refine g_aload_n (pc := 9) C dX6_addParts_9 rfl 0 rfl ?_
    refine g_aload_n (pc := 10) C dX6_addParts_10 rfl 1 rfl ?_
    refine g_aload_n (pc := 11) C dX6_addParts_11 rfl 2 rfl ?_
    refine g_callV (pc := 12) C 8 (c_X6_roll (Xl X) (Xb X) S1) gX6_addParts_X6_roll rfl rfl rfl hd_X6_roll ⟨Nat.le_of_ble_eq_true rfl, Nat.le_of_ble_eq_true rfl⟩ (w_8 _ _) rfl rfl rfl (Nat.le_of_ble_eq_true rfl) dX6_addParts_12 h (fun _u15 S15 h => ?_)
    change G X _ S15 15 [(0, .ref (ad X 8)), (1, .ref (ad X 2)), (2, .ref (ad X 6))] []
    refine g_weak (lv1 := [(0, .ref (ad X 8)), (2, .ref (ad X 6))]) [0, 2] rfl ?_
    exact s_X6_addParts_b15 C   S15 h
theorem c_X6_addParts (l : Launch) (b : Bw) (S : St) : Ct l b yX6_addParts wsX6_addParts rmX6_addParts [.ref (bad b 8), .ref (bad b 2), .ref (bad b 6)] S mkV (f_X6_addParts S) := Ct.of (by decide +kernel) rfl (Nat.le_of_ble_eq_true rfl) (fun X C hl hb r h => by
  subst hl; subst hb
  exact s_X6_addParts_b0 C S h)
/-! StyleRows$Performer.makeParts(LStyleRows$Score;LStyleRows$Rules;J)Z -/
set_option maxRecDepth 100000 in
set_option maxHeartbeats 4000000 in
theorem s_X6_makeParts_b131 {X : MC} (C : Cx X cX6_makeParts RX6 wsX6_makeParts 6 rmX6_makeParts (some .boolean)) (w0 : Int32) (S : St) {r0 : Int32 × St} (h : f_X6_makeParts_b131 w0 S = some r0) : G X (QM mkI X r0) S 131 [] [.int w0] := by
  unfold f_X6_makeParts_b131 at h
  exact g_zret (pc := 131) C h dX6_makeParts_131
set_option maxRecDepth 100000 in
set_option maxHeartbeats 4000000 in
theorem s_X6_makeParts_b116 {X : MC} (C : Cx X cX6_makeParts RX6 wsX6_makeParts 6 rmX6_makeParts (some .boolean)) (S : St) {r0 : Int32 × St} (h : f_X6_makeParts_b116 S = some r0) : G X (QM mkI X r0) S 116 [(0, .ref (ad X 8))] [] := by
  unfold f_X6_makeParts_b116 at h
  refine g_aload_n (pc := 116) C dX6_makeParts_116 rfl 0 rfl ?_
  refine g_get (pc := 117) C 8 (w_8 _ _) rfl 0 (Nat.le_of_ble_eq_true rfl) in_X6_X6_makeParts k10_X6_makeParts rfl dX6_makeParts_117 ?_
  refine g_getN (pc := 120) C 9 (w_9 _ _) rfl 2 (Nat.le_of_ble_eq_true rfl) in_X1_X6_makeParts nw_X6_31 rfl dX6_makeParts_120 ?_
  refine g_if_ne (pc := 123) (tgt := 130) C h dX6_makeParts_123 (by decide) (fun h => ?_) (fun h => ?_)
  · refine g_iconst (pc := 130) (v := 0) C dX6_makeParts_130 (by decide) ?_
    refine g_weak (lv1 := []) [] rfl ?_
    exact s_X6_makeParts_b131 C 0  S h
  · refine g_iconst (pc := 126) (v := 1) C dX6_makeParts_126 (by decide) ?_
    refine g_goto (pc := 127) (tgt := 131) C dX6_makeParts_127 (by decide) ?_
    refine g_weak (lv1 := []) [] rfl ?_
    exact s_X6_makeParts_b131 C 1  S h
set_option maxRecDepth 100000 in
set_option maxHeartbeats 4000000 in
theorem s_X6_makeParts_b10 {X : MC} (C : Cx X cX6_makeParts RX6 wsX6_makeParts 6 rmX6_makeParts (some .boolean)) {rec10 : Int32 × St → Option (Int32 × St)} (v3 : Int64) (v5 : Int32) (hrec10 : ∀ (s : Int32 × St) (r : Int32 × St), rec10 s = some r → G X (QM mkI X r) s.2 10 [(0, .ref (ad X 8)), (1, .ref (ad X 1)), (2, .ref (ad X 6)), (3, .long v3), (5, .int (s.1))] []) (S : St) {r0 : Int32 × St} (h : f_X6_makeParts_b10 rec10 v3 v5 S = some r0) : G X (QM mkI X r0) S 10 [(0, .ref (ad X 8)), (1, .ref (ad X 1)), (2, .ref (ad X 6)), (3, .long v3), (5, .int v5)] [] := by
  unfold f_X6_makeParts_b10 at h
  refine g_iload (pc := 10) C dX6_makeParts_10 4 rfl ?_
  refine g_aload_n (pc := 12) C dX6_makeParts_12 rfl 1 rfl ?_
  refine g_getN (pc := 13) C 1 (w_1 _ _) rfl 0 (Nat.le_of_ble_eq_true rfl) in_X9_X6_makeParts nw_X6_19 rfl dX6_makeParts_13 ?_
  refine g_getN (pc := 16) C 2 (w_2 _ _) rfl 5 (Nat.le_of_ble_eq_true rfl) in_X4_X6_makeParts nw_X6_25 rfl dX6_makeParts_16 ?_
  refine g_icmp_ge (pc := 19) (tgt := 116) C h dX6_makeParts_19 (by decide) (fun h => ?_) (fun h => ?_)
  · refine g_weak (lv1 := [(0, .ref (ad X 8))]) [0] rfl ?_
    exact s_X6_makeParts_b116 C   S h
  · refine g_aload_n (pc := 22) C dX6_makeParts_22 rfl 0 rfl ?_
    refine g_get (pc := 23) C 8 (w_8 _ _) rfl 0 (Nat.le_of_ble_eq_true rfl) in_X6_X6_makeParts k10_X6_makeParts rfl dX6_makeParts_23 ?_
    refine g_getN (pc := 26) C 9 (w_9 _ _) rfl 2 (Nat.le_of_ble_eq_true rfl) in_X1_X6_makeParts nw_X6_31 rfl dX6_makeParts_26 ?_
    refine g_if_ne (pc := 29) (tgt := 116) C h dX6_makeParts_29 (by decide) (fun h => ?_) (fun h => ?_)
    · refine g_weak (lv1 := [(0, .ref (ad X 8))]) [0] rfl ?_
      exact s_X6_makeParts_b116 C   S h
    · refine g_aload_n (pc := 32) C dX6_makeParts_32 rfl 0 rfl ?_
      refine g_aload_n (pc := 33) C dX6_makeParts_33 rfl 1 rfl ?_
      refine g_getN (pc := 34) C 1 (w_1 _ _) rfl 0 (Nat.le_of_ble_eq_true rfl) in_X9_X6_makeParts nw_X6_19 rfl dX6_makeParts_34 ?_
      refine g_iload (pc := 37) C dX6_makeParts_37 4 rfl ?_
      refine g_callV (pc := 39) C 8 (c_X6_takeNote (Xl X) (Xb X) v5 S) gX6_makeParts_X6_takeNote rfl rfl rfl hd_X6_takeNote ⟨Nat.le_of_ble_eq_true rfl, Nat.le_of_ble_eq_true rfl⟩ (w_8 _ _) rfl rfl rfl (Nat.le_of_ble_eq_true rfl) dX6_makeParts_39 h (fun _u2 S2 h => ?_)
      change G X _ S2 42 [(0, .ref (ad X 8)), (1, .ref (ad X 1)), (2, .ref (ad X 6)), (3, .long v3), (5, .int v5)] []
      refine g_aload_n (pc := 42) C dX6_makeParts_42 rfl 0 rfl ?_
      refine g_aload_n (pc := 43) C dX6_makeParts_43 rfl 0 rfl ?_
      refine g_aload_n (pc := 44) C dX6_makeParts_44 rfl 1 rfl ?_
      refine g_getN (pc := 45) C 1 (w_1 _ _) rfl 0 (Nat.le_of_ble_eq_true rfl) in_X9_X6_makeParts nw_X6_19 rfl dX6_makeParts_45 ?_
      refine g_getN (pc := 48) C 2 (w_2 _ _) rfl 2 (Nat.le_of_ble_eq_true rfl) in_X4_X6_makeParts nw_X6_39 rfl dX6_makeParts_48 ?_
      refine g_iload (pc := 51) C dX6_makeParts_51 4 rfl ?_
      refine g_iald (pc := 53) C 15 (w_15 _ _) h dX6_makeParts_53 (fun h => ?_)
      refine g_aload_n (pc := 54) C dX6_makeParts_54 rfl 2 rfl ?_
      refine g_callV (pc := 55) C 8 (c_X6_longOf (Xl X) (Xb X) (rd S2 15 v5) S2) gX6_makeParts_X6_longOf rfl rfl rfl hd_X6_longOf ⟨Nat.le_of_ble_eq_true rfl, Nat.le_of_ble_eq_true rfl⟩ (w_8 _ _) rfl rfl rfl (Nat.le_of_ble_eq_true rfl) dX6_makeParts_55 h (fun r4 S3 h => ?_)
      change G X _ S3 58 [(0, .ref (ad X 8)), (1, .ref (ad X 1)), (2, .ref (ad X 6)), (3, .long v3), (5, .int v5)] [.int r4, .ref (ad X 8)]
      refine g_put (pc := 58) C 8 (w_8 _ _) rfl 7 (Nat.le_of_ble_eq_true rfl) in_X6_X6_makeParts tyX6_ok nmX6 k47_X6_makeParts rfl rfl rfl (Nat.le_of_ble_eq_true rfl) (ws_8_7 _ _ _) dX6_makeParts_58 h (fun S5 h => ?_)
      refine g_aload_n (pc := 61) C dX6_makeParts_61 rfl 0 rfl ?_
      refine g_aload_n (pc := 62) C dX6_makeParts_62 rfl 0 rfl ?_
      refine g_aload_n (pc := 63) C dX6_makeParts_63 rfl 1 rfl ?_
      refine g_aload_n (pc := 64) C dX6_makeParts_64 rfl 1 rfl ?_
      refine g_getN (pc := 65) C 1 (w_1 _ _) rfl 0 (Nat.le_of_ble_eq_true rfl) in_X9_X6_makeParts nw_X6_19 rfl dX6_makeParts_65 ?_
      refine g_getN (pc := 68) C 2 (w_2 _ _) rfl 1 (Nat.le_of_ble_eq_true rfl) in_X4_X6_makeParts nw_X6_50 rfl dX6_makeParts_68 ?_
      refine g_iload (pc := 71) C dX6_makeParts_71 4 rfl ?_
      refine g_iald (pc := 73) C 14 (w_14 _ _) h dX6_makeParts_73 (fun h => ?_)
      refine g_aload_n (pc := 74) C dX6_makeParts_74 rfl 2 rfl ?_
      refine g_callV (pc := 75) C 8 (c_X6_loudOf (Xl X) (Xb X) (rd S5 14 v5) S5) gX6_makeParts_X6_loudOf rfl rfl rfl hd_X6_loudOf ⟨Nat.le_of_ble_eq_true rfl, Nat.le_of_ble_eq_true rfl⟩ (w_8 _ _) rfl rfl rfl (Nat.le_of_ble_eq_true rfl) dX6_makeParts_75 h (fun r7 S6 h => ?_)
      change G X _ S6 78 [(0, .ref (ad X 8)), (1, .ref (ad X 1)), (2, .ref (ad X 6)), (3, .long v3), (5, .int v5)] [.int r7, .ref (ad X 8)]
      refine g_put (pc := 78) C 8 (w_8 _ _) rfl 5 (Nat.le_of_ble_eq_true rfl) in_X6_X6_makeParts tyX6_ok nmX6 k57_X6_makeParts rfl rfl rfl (Nat.le_of_ble_eq_true rfl) (ws_8_5 _ _ _) dX6_makeParts_78 h (fun S8 h => ?_)
      refine g_aload_n (pc := 81) C dX6_makeParts_81 rfl 0 rfl ?_
      refine g_aload_n (pc := 82) C dX6_makeParts_82 rfl 0 rfl ?_
      refine g_aload_n (pc := 83) C dX6_makeParts_83 rfl 1 rfl ?_
      refine g_getN (pc := 84) C 1 (w_1 _ _) rfl 0 (Nat.le_of_ble_eq_true rfl) in_X9_X6_makeParts nw_X6_19 rfl dX6_makeParts_84 ?_
      refine g_getN (pc := 87) C 2 (w_2 _ _) rfl 1 (Nat.le_of_ble_eq_true rfl) in_X4_X6_makeParts nw_X6_50 rfl dX6_makeParts_87 ?_
      refine g_iload (pc := 90) C dX6_makeParts_90 4 rfl ?_
      refine g_iald (pc := 92) C 14 (w_14 _ _) h dX6_makeParts_92 (fun h => ?_)
      refine g_aload_n (pc := 93) C dX6_makeParts_93 rfl 2 rfl ?_
      refine g_lload_n (pc := 94) C dX6_makeParts_94 rfl 3 rfl ?_
      refine g_callV (pc := 95) C 8 (c_X6_onOf (Xl X) (Xb X) (rd S8 14 v5) v3 S8) gX6_makeParts_X6_onOf rfl rfl rfl hd_X6_onOf ⟨Nat.le_of_ble_eq_true rfl, Nat.le_of_ble_eq_true rfl⟩ (w_8 _ _) rfl rfl rfl (Nat.le_of_ble_eq_true rfl) dX6_makeParts_95 h (fun r10 S9 h => ?_)
      change G X _ S9 98 [(0, .ref (ad X 8)), (1, .ref (ad X 1)), (2, .ref (ad X 6)), (3, .long v3), (5, .int v5)] [.int r10, .ref (ad X 8)]
      refine g_put (pc := 98) C 8 (w_8 _ _) rfl 6 (Nat.le_of_ble_eq_true rfl) in_X6_X6_makeParts tyX6_ok nmX6 k64_X6_makeParts rfl rfl rfl (Nat.le_of_ble_eq_true rfl) (ws_8_6 _ _ _) dX6_makeParts_98 h (fun S11 h => ?_)
      refine g_aload_n (pc := 101) C dX6_makeParts_101 rfl 0 rfl ?_
      refine g_aload_n (pc := 102) C dX6_makeParts_102 rfl 1 rfl ?_
      refine g_getN (pc := 103) C 1 (w_1 _ _) rfl 0 (Nat.le_of_ble_eq_true rfl) in_X9_X6_makeParts nw_X6_19 rfl dX6_makeParts_103 ?_
      refine g_aload_n (pc := 106) C dX6_makeParts_106 rfl 2 rfl ?_
      refine g_callV (pc := 107) C 8 (c_X6_addParts (Xl X) (Xb X) S11) gX6_makeParts_X6_addParts rfl rfl rfl hd_X6_addParts ⟨Nat.le_of_ble_eq_true rfl, Nat.le_of_ble_eq_true rfl⟩ (w_8 _ _) rfl rfl rfl (Nat.le_of_ble_eq_true rfl) dX6_makeParts_107 h (fun _u12 S12 h => ?_)
      change G X _ S12 110 [(0, .ref (ad X 8)), (1, .ref (ad X 1)), (2, .ref (ad X 6)), (3, .long v3), (5, .int v5)] []
      refine g_iinc (pc := 110) (v := v5 + 1) C [(5, .int (v5 + 1)), (0, .ref (ad X 8)), (1, .ref (ad X 1)), (2, .ref (ad X 6)), (3, .long v3)] dX6_makeParts_110 4 rfl rfl (Nat.le_of_ble_eq_true rfl) rfl ?_
      refine g_goto (pc := 113) (tgt := 10) C dX6_makeParts_113 (by decide) ?_
      refine g_weak (lv1 := [(0, .ref (ad X 8)), (1, .ref (ad X 1)), (2, .ref (ad X 6)), (3, .long v3), (5, .int (v5 + 1))]) [1, 2, 3, 4, 0] rfl ?_
      exact hrec10 (v5 + 1, S12) _ h
set_option maxRecDepth 100000 in
set_option maxHeartbeats 4000000 in
theorem s_X6_makeParts_l10 {X : MC} (C : Cx X cX6_makeParts RX6 wsX6_makeParts 6 rmX6_makeParts (some .boolean)) (v3 : Int64) : ∀ (n : Nat) (s : Int32 × St) (r : Int32 × St), f_X6_makeParts_l10 v3 n s = some r → G X (QM mkI X r) s.2 10 [(0, .ref (ad X 8)), (1, .ref (ad X 1)), (2, .ref (ad X 6)), (3, .long v3), (5, .int (s.1))] [] :=
  loop_sound (fun rec10 hrec10 s r h => s_X6_makeParts_b10 C v3 s.1 hrec10 s.2 h)
set_option maxRecDepth 100000 in
set_option maxHeartbeats 4000000 in
theorem s_X6_makeParts_b0 {X : MC} (C : Cx X cX6_makeParts RX6 wsX6_makeParts 6 rmX6_makeParts (some .boolean)) (a3 : Int64) (S : St) {r0 : Int32 × St} (h : f_X6_makeParts_b0 a3 S = some r0) : G X (QM mkI X r0) S 0 [(0, .ref (ad X 8)), (1, .ref (ad X 1)), (2, .ref (ad X 6)), (3, .long a3)] [] := by
  unfold f_X6_makeParts_b0 at h
  refine g_aload_n (pc := 0) C dX6_makeParts_0 rfl 0 rfl ?_
  refine g_get (pc := 1) C 8 (w_8 _ _) rfl 0 (Nat.le_of_ble_eq_true rfl) in_X6_X6_makeParts k10_X6_makeParts rfl dX6_makeParts_1 ?_
  refine g_callV (pc := 4) C 9 (c_X1_clear (Xl X) (Xb X) S) gX6_makeParts_X1_clear rfl rfl rfl hd_X1_clear ⟨Nat.le_of_ble_eq_true rfl, Nat.le_of_ble_eq_true rfl⟩ (w_9 _ _) rfl rfl rfl (Nat.le_of_ble_eq_true rfl) dX6_makeParts_4 h (fun _u1 S1 h => ?_)
  change G X _ S1 7 [(0, .ref (ad X 8)), (1, .ref (ad X 1)), (2, .ref (ad X 6)), (3, .long a3)] []
  refine g_iconst (pc := 7) (v := 0) C dX6_makeParts_7 (by decide) ?_
  refine g_istore (pc := 8) C [(5, .int 0), (0, .ref (ad X 8)), (1, .ref (ad X 1)), (2, .ref (ad X 6)), (3, .long a3)] dX6_makeParts_8 (Nat.le_of_ble_eq_true rfl) rfl ?_
  refine g_weak (lv1 := [(0, .ref (ad X 8)), (1, .ref (ad X 1)), (2, .ref (ad X 6)), (3, .long a3), (5, .int 0)]) [1, 2, 3, 4, 0] rfl ?_
  exact s_X6_makeParts_l10 C a3 _ (0, S1) _ h
theorem c_X6_makeParts (l : Launch) (b : Bw) (a3 : Int64) (S : St) : Ct l b yX6_makeParts wsX6_makeParts rmX6_makeParts [.ref (bad b 8), .ref (bad b 1), .ref (bad b 6), .long a3] S mkI (f_X6_makeParts a3 S) := Ct.of (by decide +kernel) rfl (Nat.le_of_ble_eq_true rfl) (fun X C hl hb r h => by
  subst hl; subst hb
  exact s_X6_makeParts_b0 C a3 S h)
/-! StyleRows$Events.bend(LStyleRows$Arcs;)V -/
set_option maxRecDepth 100000 in
set_option maxHeartbeats 4000000 in
theorem s_X1_bend_b2 {X : MC} (C : Cx X cX1_bend RX1 wsX1_bend 5 rmX1_bend none) {rec2 : Int32 × St → Option (Unit × St)} (v2 : Int32) (hrec2 : ∀ (s : Int32 × St) (r : Unit × St), rec2 s = some r → G X (QM mkV X r) s.2 2 [(0, .ref (ad X 9)), (1, .ref (ad X 4)), (2, .int (s.1))] []) (S : St) {r0 : Unit × St} (h : f_X1_bend_b2 rec2 v2 S = some r0) : G X (QM mkV X r0) S 2 [(0, .ref (ad X 9)), (1, .ref (ad X 4)), (2, .int v2)] [] := by
  unfold f_X1_bend_b2 at h
  refine g_iload_n (pc := 2) C dX1_bend_2 rfl 2 rfl ?_
  refine g_aload_n (pc := 3) C dX1_bend_3 rfl 0 rfl ?_
  refine g_get (pc := 4) C 9 (w_9 _ _) rfl 1 (Nat.le_of_ble_eq_true rfl) in_X1_X1_bend k16_X1_bend rfl dX1_bend_4 ?_
  refine g_icmp_ge (pc := 7) (tgt := 77) C h dX1_bend_7 (by decide) (fun h => ?_) (fun h => ?_)
  · exact g_vret (pc := 77) C h dX1_bend_77
  · refine g_aload_n (pc := 10) C dX1_bend_10 rfl 1 rfl ?_
    refine g_aload_n (pc := 11) C dX1_bend_11 rfl 0 rfl ?_
    refine g_get (pc := 12) C 9 (w_9 _ _) rfl 0 (Nat.le_of_ble_eq_true rfl) in_X1_X1_bend k13_X1_bend rfl dX1_bend_12 ?_
    refine g_iconst (pc := 15) (v := 0) C dX1_bend_15 (by decide) ?_
    refine g_aaldc (pc := 16) (i := 0) C 31 32 (w_31 _ _) rfl rfl dX1_bend_16 ?_
    refine g_iload_n (pc := 17) C dX1_bend_17 rfl 2 rfl ?_
    refine g_iald (pc := 18) C 32 (w_32 _ _) h dX1_bend_18 (fun h => ?_)
    refine g_callV (pc := 19) C 4 (c_X0_bent (Xl X) (Xb X) (rd S 32 v2) S) gX1_bend_X0_bent rfl rfl rfl hd_X0_bent ⟨Nat.le_of_ble_eq_true rfl, Nat.le_of_ble_eq_true rfl⟩ (w_4 _ _) rfl rfl rfl (Nat.le_of_ble_eq_true rfl) dX1_bend_19 h (fun r2 S1 h => ?_)
    change G X _ S1 22 [(0, .ref (ad X 9)), (1, .ref (ad X 4)), (2, .int v2)] [.int r2]
    refine g_istore_n (pc := 22) C [(3, .int r2), (0, .ref (ad X 9)), (1, .ref (ad X 4)), (2, .int v2)] dX1_bend_22 rfl (Nat.le_of_ble_eq_true rfl) rfl ?_
    refine g_aload_n (pc := 23) C dX1_bend_23 rfl 2 rfl ?_
    refine g_aload_n (pc := 24) C dX1_bend_24 rfl 1 rfl ?_
    refine g_get (pc := 25) C 9 (w_9 _ _) rfl 0 (Nat.le_of_ble_eq_true rfl) in_X1_X1_bend k13_X1_bend rfl dX1_bend_25 ?_
    refine g_iconst (pc := 28) (v := 0) C dX1_bend_28 (by decide) ?_
    refine g_aaldc (pc := 29) (i := 0) C 31 32 (w_31 _ _) rfl rfl dX1_bend_29 ?_
    refine g_iload_n (pc := 30) C dX1_bend_30 rfl 3 rfl ?_
    refine g_iald (pc := 31) C 32 (w_32 _ _) h dX1_bend_31 (fun h => ?_)
    refine g_aload_n (pc := 32) C dX1_bend_32 rfl 1 rfl ?_
    refine g_get (pc := 33) C 9 (w_9 _ _) rfl 0 (Nat.le_of_ble_eq_true rfl) in_X1_X1_bend k13_X1_bend rfl dX1_bend_33 ?_
    refine g_iconst (pc := 36) (v := 1) C dX1_bend_36 (by decide) ?_
    refine g_aaldc (pc := 37) (i := 1) C 31 33 (w_31 _ _) rfl rfl dX1_bend_37 ?_
    refine g_iload_n (pc := 38) C dX1_bend_38 rfl 3 rfl ?_
    refine g_iald (pc := 39) C 33 (w_33 _ _) h dX1_bend_39 (fun h => ?_)
    refine g_iadd (pc := 40) C dX1_bend_40 ?_
    refine g_callV (pc := 41) C 4 (c_X0_bent (Xl X) (Xb X) ((rd S1 32 v2) + (rd S1 33 v2)) S1) gX1_bend_X0_bent rfl rfl rfl hd_X0_bent ⟨Nat.le_of_ble_eq_true rfl, Nat.le_of_ble_eq_true rfl⟩ (w_4 _ _) rfl rfl rfl (Nat.le_of_ble_eq_true rfl) dX1_bend_41 h (fun r4 S3 h => ?_)
    change G X _ S3 44 [(3, .int r2), (0, .ref (ad X 9)), (1, .ref (ad X 4)), (2, .int v2)] [.int r4]
    refine g_istore (pc := 44) C [(4, .int r4), (3, .int r2), (0, .ref (ad X 9)), (1, .ref (ad X 4)), (2, .int v2)] dX1_bend_44 (Nat.le_of_ble_eq_true rfl) rfl ?_
    refine g_aload_n (pc := 46) C dX1_bend_46 rfl 2 rfl ?_
    refine g_get (pc := 47) C 9 (w_9 _ _) rfl 0 (Nat.le_of_ble_eq_true rfl) in_X1_X1_bend k13_X1_bend rfl dX1_bend_47 ?_
    refine g_iconst (pc := 50) (v := 0) C dX1_bend_50 (by decide) ?_
    refine g_aaldc (pc := 51) (i := 0) C 31 32 (w_31 _ _) rfl rfl dX1_bend_51 ?_
    refine g_iload_n (pc := 52) C dX1_bend_52 rfl 4 rfl ?_
    refine g_iload_n (pc := 53) C dX1_bend_53 rfl 1 rfl ?_
    refine g_iast (pc := 54) C 32 (w_32 _ _) (ws_32 _ _) h dX1_bend_54 (fun S5 h => ?_)
    refine g_aload_n (pc := 55) C dX1_bend_55 rfl 2 rfl ?_
    refine g_get (pc := 56) C 9 (w_9 _ _) rfl 0 (Nat.le_of_ble_eq_true rfl) in_X1_X1_bend k13_X1_bend rfl dX1_bend_56 ?_
    refine g_iconst (pc := 59) (v := 1) C dX1_bend_59 (by decide) ?_
    refine g_aaldc (pc := 60) (i := 1) C 31 33 (w_31 _ _) rfl rfl dX1_bend_60 ?_
    refine g_iload_n (pc := 61) C dX1_bend_61 rfl 4 rfl ?_
    refine g_iconst (pc := 62) (v := 1) C dX1_bend_62 (by decide) ?_
    refine g_iload (pc := 63) C dX1_bend_63 0 rfl ?_
    refine g_iload_n (pc := 65) C dX1_bend_65 rfl 1 rfl ?_
    refine g_isub (pc := 66) C dX1_bend_66 ?_
    refine g_mmax (pc := 67) C k34_X1_bend kstmax_X1_bend kini_X1_bend kcomax_X1_bend (Nat.le_of_ble_eq_true rfl) (Nat.le_of_ble_eq_true rfl) dX1_bend_67 ?_
    refine g_iast (pc := 70) C 33 (w_33 _ _) (ws_33 _ _) h dX1_bend_70 (fun S6 h => ?_)
    refine g_iinc (pc := 71) (v := v2 + 1) C [(2, .int (v2 + 1)), (4, .int r4), (3, .int r2), (0, .ref (ad X 9)), (1, .ref (ad X 4))] dX1_bend_71 4 rfl rfl (Nat.le_of_ble_eq_true rfl) rfl ?_
    refine g_goto (pc := 74) (tgt := 2) C dX1_bend_74 (by decide) ?_
    refine g_weak (lv1 := [(0, .ref (ad X 9)), (1, .ref (ad X 4)), (2, .int (v2 + 1))]) [3, 4, 0] rfl ?_
    exact hrec2 (v2 + 1, S6) _ h
set_option maxRecDepth 100000 in
set_option maxHeartbeats 4000000 in
theorem s_X1_bend_l2 {X : MC} (C : Cx X cX1_bend RX1 wsX1_bend 5 rmX1_bend none) : ∀ (n : Nat) (s : Int32 × St) (r : Unit × St), f_X1_bend_l2 n s = some r → G X (QM mkV X r) s.2 2 [(0, .ref (ad X 9)), (1, .ref (ad X 4)), (2, .int (s.1))] [] :=
  loop_sound (fun rec2 hrec2 s r h => s_X1_bend_b2 C s.1 hrec2 s.2 h)
set_option maxRecDepth 100000 in
set_option maxHeartbeats 4000000 in
theorem s_X1_bend_b0 {X : MC} (C : Cx X cX1_bend RX1 wsX1_bend 5 rmX1_bend none) (S : St) {r0 : Unit × St} (h : f_X1_bend_b0 S = some r0) : G X (QM mkV X r0) S 0 [(0, .ref (ad X 9)), (1, .ref (ad X 4))] [] := by
  unfold f_X1_bend_b0 at h
  refine g_iconst (pc := 0) (v := 0) C dX1_bend_0 (by decide) ?_
  refine g_istore_n (pc := 1) C [(2, .int 0), (0, .ref (ad X 9)), (1, .ref (ad X 4))] dX1_bend_1 rfl (Nat.le_of_ble_eq_true rfl) rfl ?_
  refine g_weak (lv1 := [(0, .ref (ad X 9)), (1, .ref (ad X 4)), (2, .int 0)]) [1, 2, 0] rfl ?_
  exact s_X1_bend_l2 C  _ (0, S) _ h
theorem c_X1_bend (l : Launch) (b : Bw) (S : St) : Ct l b yX1_bend wsX1_bend rmX1_bend [.ref (bad b 9), .ref (bad b 4)] S mkV (f_X1_bend S) := Ct.of (by decide +kernel) rfl (Nat.le_of_ble_eq_true rfl) (fun X C hl hb r h => by
  subst hl; subst hb
  exact s_X1_bend_b0 C S h)
/-! StyleRows$Order.merge(III)V -/
set_option maxRecDepth 100000 in
set_option maxHeartbeats 4000000 in
theorem s_X5_merge_b82 {X : MC} (C : Cx X cX5_merge RX5 wsX5_merge 7 rmX5_merge none) {rec9 : Int32 × Int32 × Int32 × St → Option (Unit × St)} (v2 : Int32) (v3 : Int32) (v4 : Int32) (v5 : Int32) (v6 : Int32) (hrec9 : ∀ (s : Int32 × Int32 × Int32 × St) (r : Unit × St), rec9 s = some r → G X (QM mkV X r) s.2.2.2 9 [(0, .ref (ad X 10)), (2, .int v2), (3, .int v3), (4, .int (s.1)), (5, .int (s.2.1)), (6, .int (s.2.2.1))] []) (S : St) {r0 : Unit × St} (h : f_X5_merge_b82 rec9 v2 v3 v4 v5 v6 S = some r0) : G X (QM mkV X r0) S 82 [(0, .ref (ad X 10)), (2, .int v2), (3, .int v3), (4, .int v4), (5, .int v5), (6, .int v6)] [] := by
  unfold f_X5_merge_b82 at h
  refine g_iinc (pc := 82) (v := v6 + 1) C [(6, .int (v6 + 1)), (0, .ref (ad X 10)), (2, .int v2), (3, .int v3), (4, .int v4), (5, .int v5)] dX5_merge_82 5 rfl rfl (Nat.le_of_ble_eq_true rfl) rfl ?_
  refine g_goto (pc := 85) (tgt := 9) C dX5_merge_85 (by decide) ?_
  refine g_weak (lv1 := [(0, .ref (ad X 10)), (2, .int v2), (3, .int v3), (4, .int v4), (5, .int v5), (6, .int (v6 + 1))]) [1, 2, 3, 4, 5, 0] rfl ?_
  exact hrec9 (v4, v5, v6 + 1, S) _ h
set_option maxRecDepth 100000 in
set_option maxHeartbeats 4000000 in
theorem s_X5_merge_b65 {X : MC} (C : Cx X cX5_merge RX5 wsX5_merge 7 rmX5_merge none) {rec9 : Int32 × Int32 × Int32 × St → Option (Unit × St)} (v2 : Int32) (v3 : Int32) (v4 : Int32) (v5 : Int32) (v6 : Int32) (hrec9 : ∀ (s : Int32 × Int32 × Int32 × St) (r : Unit × St), rec9 s = some r → G X (QM mkV X r) s.2.2.2 9 [(0, .ref (ad X 10)), (2, .int v2), (3, .int v3), (4, .int (s.1)), (5, .int (s.2.1)), (6, .int (s.2.2.1))] []) (S : St) {r0 : Unit × St} (h : f_X5_merge_b65 rec9 v2 v3 v4 v5 v6 S = some r0) : G X (QM mkV X r0) S 65 [(0, .ref (ad X 10)), (2, .int v2), (3, .int v3), (4, .int v4), (5, .int v5), (6, .int v6)] [] := by
  unfold f_X5_merge_b65 at h
  refine g_aload_n (pc := 65) C dX5_merge_65 rfl 0 rfl ?_
  refine g_get (pc := 66) C 10 (w_10 _ _) rfl 1 (Nat.le_of_ble_eq_true rfl) in_X5_X5_merge k17_X5_merge rfl dX5_merge_66 ?_
  refine g_iload (pc := 69) C dX5_merge_69 5 rfl ?_
  refine g_aload_n (pc := 71) C dX5_merge_71 rfl 0 rfl ?_
  refine g_get (pc := 72) C 10 (w_10 _ _) rfl 0 (Nat.le_of_ble_eq_true rfl) in_X5_X5_merge k11_X5_merge rfl dX5_merge_72 ?_
  refine g_iload (pc := 75) C dX5_merge_75 4 rfl ?_
  refine g_lald (pc := 77) C _ h dX5_merge_77 (fun h => ?_)
  refine g_last (pc := 78) C _ h dX5_merge_78 (fun S1 h => ?_)
  refine g_iinc (pc := 79) (v := v5 + 1) C [(5, .int (v5 + 1)), (0, .ref (ad X 10)), (2, .int v2), (3, .int v3), (4, .int v4), (6, .int v6)] dX5_merge_79 4 rfl rfl (Nat.le_of_ble_eq_true rfl) rfl ?_
  refine g_weak (lv1 := [(0, .ref (ad X 10)), (2, .int v2), (3, .int v3), (4, .int v4), (5, .int (v5 + 1)), (6, .int v6)]) [1, 2, 3, 4, 0, 5] rfl ?_
  exact s_X5_merge_b82 C v2 v3 v4 (v5 + 1) v6 hrec9  S1 h
set_option maxRecDepth 100000 in
set_option maxHeartbeats 4000000 in
theorem s_X5_merge_b45 {X : MC} (C : Cx X cX5_merge RX5 wsX5_merge 7 rmX5_merge none) {rec9 : Int32 × Int32 × Int32 × St → Option (Unit × St)} (v2 : Int32) (v3 : Int32) (v4 : Int32) (v5 : Int32) (v6 : Int32) (hrec9 : ∀ (s : Int32 × Int32 × Int32 × St) (r : Unit × St), rec9 s = some r → G X (QM mkV X r) s.2.2.2 9 [(0, .ref (ad X 10)), (2, .int v2), (3, .int v3), (4, .int (s.1)), (5, .int (s.2.1)), (6, .int (s.2.2.1))] []) (S : St) {r0 : Unit × St} (h : f_X5_merge_b45 rec9 v2 v3 v4 v5 v6 S = some r0) : G X (QM mkV X r0) S 45 [(0, .ref (ad X 10)), (2, .int v2), (3, .int v3), (4, .int v4), (5, .int v5), (6, .int v6)] [] := by
  unfold f_X5_merge_b45 at h
  refine g_aload_n (pc := 45) C dX5_merge_45 rfl 0 rfl ?_
  refine g_get (pc := 46) C 10 (w_10 _ _) rfl 1 (Nat.le_of_ble_eq_true rfl) in_X5_X5_merge k17_X5_merge rfl dX5_merge_46 ?_
  refine g_iload (pc := 49) C dX5_merge_49 5 rfl ?_
  refine g_aload_n (pc := 51) C dX5_merge_51 rfl 0 rfl ?_
  refine g_get (pc := 52) C 10 (w_10 _ _) rfl 0 (Nat.le_of_ble_eq_true rfl) in_X5_X5_merge k11_X5_merge rfl dX5_merge_52 ?_
  refine g_iload (pc := 55) C dX5_merge_55 3 rfl ?_
  refine g_lald (pc := 57) C _ h dX5_merge_57 (fun h => ?_)
  refine g_last (pc := 58) C _ h dX5_merge_58 (fun S2 h => ?_)
  refine g_iinc (pc := 59) (v := v4 + 1) C [(4, .int (v4 + 1)), (0, .ref (ad X 10)), (2, .int v2), (3, .int v3), (5, .int v5), (6, .int v6)] dX5_merge_59 3 rfl rfl (Nat.le_of_ble_eq_true rfl) rfl ?_
  refine g_goto (pc := 62) (tgt := 82) C dX5_merge_62 (by decide) ?_
  refine g_weak (lv1 := [(0, .ref (ad X 10)), (2, .int v2), (3, .int v3), (4, .int (v4 + 1)), (5, .int v5), (6, .int v6)]) [1, 2, 3, 0, 4, 5] rfl ?_
  exact s_X5_merge_b82 C v2 v3 (v4 + 1) v5 v6 hrec9  S2 h
set_option maxRecDepth 100000 in
set_option maxHeartbeats 4000000 in
theorem s_X5_merge_b9 {X : MC} (C : Cx X cX5_merge RX5 wsX5_merge 7 rmX5_merge none) {rec9 : Int32 × Int32 × Int32 × St → Option (Unit × St)} (v2 : Int32) (v3 : Int32) (v4 : Int32) (v5 : Int32) (v6 : Int32) (hrec9 : ∀ (s : Int32 × Int32 × Int32 × St) (r : Unit × St), rec9 s = some r → G X (QM mkV X r) s.2.2.2 9 [(0, .ref (ad X 10)), (2, .int v2), (3, .int v3), (4, .int (s.1)), (5, .int (s.2.1)), (6, .int (s.2.2.1))] []) (S : St) {r0 : Unit × St} (h : f_X5_merge_b9 rec9 v2 v3 v4 v5 v6 S = some r0) : G X (QM mkV X r0) S 9 [(0, .ref (ad X 10)), (2, .int v2), (3, .int v3), (4, .int v4), (5, .int v5), (6, .int v6)] [] := by
  unfold f_X5_merge_b9 at h
  refine g_iload (pc := 9) C dX5_merge_9 5 rfl ?_
  refine g_iload_n (pc := 11) C dX5_merge_11 rfl 2 rfl ?_
  refine g_icmp_ge (pc := 12) (tgt := 88) C h dX5_merge_12 (by decide) (fun h => ?_) (fun h => ?_)
  · exact g_vret (pc := 88) C h dX5_merge_88
  · refine g_iload (pc := 15) C dX5_merge_15 3 rfl ?_
    refine g_iload_n (pc := 17) C dX5_merge_17 rfl 1 rfl ?_
    refine g_icmp_ge (pc := 18) (tgt := 65) C h dX5_merge_18 (by decide) (fun h => ?_) (fun h => ?_)
    · refine g_weak (lv1 := [(0, .ref (ad X 10)), (2, .int v2), (3, .int v3), (4, .int v4), (5, .int v5), (6, .int v6)]) [0, 1, 2, 3, 4, 5] rfl ?_
      exact s_X5_merge_b65 C v2 v3 v4 v5 v6 hrec9  S h
    · refine g_iload (pc := 21) C dX5_merge_21 4 rfl ?_
      refine g_iload_n (pc := 23) C dX5_merge_23 rfl 2 rfl ?_
      refine g_icmp_ge (pc := 24) (tgt := 45) C h dX5_merge_24 (by decide) (fun h => ?_) (fun h => ?_)
      · refine g_weak (lv1 := [(0, .ref (ad X 10)), (2, .int v2), (3, .int v3), (4, .int v4), (5, .int v5), (6, .int v6)]) [0, 1, 2, 3, 4, 5] rfl ?_
        exact s_X5_merge_b45 C v2 v3 v4 v5 v6 hrec9  S h
      · refine g_aload_n (pc := 27) C dX5_merge_27 rfl 0 rfl ?_
        refine g_get (pc := 28) C 10 (w_10 _ _) rfl 0 (Nat.le_of_ble_eq_true rfl) in_X5_X5_merge k11_X5_merge rfl dX5_merge_28 ?_
        refine g_iload (pc := 31) C dX5_merge_31 3 rfl ?_
        refine g_lald (pc := 33) C _ h dX5_merge_33 (fun h => ?_)
        refine g_aload_n (pc := 34) C dX5_merge_34 rfl 0 rfl ?_
        refine g_get (pc := 35) C 10 (w_10 _ _) rfl 0 (Nat.le_of_ble_eq_true rfl) in_X5_X5_merge k11_X5_merge rfl dX5_merge_35 ?_
        refine g_iload (pc := 38) C dX5_merge_38 4 rfl ?_
        refine g_lald (pc := 40) C _ h dX5_merge_40 (fun h => ?_)
        refine g_lcmp (pc := 41) C dX5_merge_41 ?_
        refine g_if_ge (pc := 42) (tgt := 65) C h dX5_merge_42 (by decide) (fun h => ?_) (fun h => ?_)
        · refine g_weak (lv1 := [(0, .ref (ad X 10)), (2, .int v2), (3, .int v3), (4, .int v4), (5, .int v5), (6, .int v6)]) [0, 1, 2, 3, 4, 5] rfl ?_
          exact s_X5_merge_b65 C v2 v3 v4 v5 v6 hrec9  S h
        · refine g_weak (lv1 := [(0, .ref (ad X 10)), (2, .int v2), (3, .int v3), (4, .int v4), (5, .int v5), (6, .int v6)]) [0, 1, 2, 3, 4, 5] rfl ?_
          exact s_X5_merge_b45 C v2 v3 v4 v5 v6 hrec9  S h
set_option maxRecDepth 100000 in
set_option maxHeartbeats 4000000 in
theorem s_X5_merge_l9 {X : MC} (C : Cx X cX5_merge RX5 wsX5_merge 7 rmX5_merge none) (v2 : Int32) (v3 : Int32) : ∀ (n : Nat) (s : Int32 × Int32 × Int32 × St) (r : Unit × St), f_X5_merge_l9 v2 v3 n s = some r → G X (QM mkV X r) s.2.2.2 9 [(0, .ref (ad X 10)), (2, .int v2), (3, .int v3), (4, .int (s.1)), (5, .int (s.2.1)), (6, .int (s.2.2.1))] [] :=
  loop_sound (fun rec9 hrec9 s r h => s_X5_merge_b9 C v2 v3 s.1 s.2.1 s.2.2.1 hrec9 s.2.2.2 h)
set_option maxRecDepth 100000 in
set_option maxHeartbeats 4000000 in
theorem s_X5_merge_b0 {X : MC} (C : Cx X cX5_merge RX5 wsX5_merge 7 rmX5_merge none) (a1 : Int32) (a2 : Int32) (a3 : Int32) (S : St) {r0 : Unit × St} (h : f_X5_merge_b0 a1 a2 a3 S = some r0) : G X (QM mkV X r0) S 0 [(0, .ref (ad X 10)), (1, .int a1), (2, .int a2), (3, .int a3)] [] := by
  unfold f_X5_merge_b0 at h
  refine g_iload_n (pc := 0) C dX5_merge_0 rfl 1 rfl ?_
  refine g_istore (pc := 1) C [(4, .int a1), (0, .ref (ad X 10)), (1, .int a1), (2, .int a2), (3, .int a3)] dX5_merge_1 (Nat.le_of_ble_eq_true rfl) rfl ?_
  refine g_iload_n (pc := 3) C dX5_merge_3 rfl 3 rfl ?_
  refine g_istore (pc := 4) C [(5, .int a2), (4, .int a1), (0, .ref (ad X 10)), (1, .int a1), (2, .int a2), (3, .int a3)] dX5_merge_4 (Nat.le_of_ble_eq_true rfl) rfl ?_
  refine g_iload_n (pc := 6) C dX5_merge_6 rfl 3 rfl ?_
  refine g_istore (pc := 7) C [(6, .int a1), (5, .int a2), (4, .int a1), (0, .ref (ad X 10)), (1, .int a1), (2, .int a2), (3, .int a3)] dX5_merge_7 (Nat.le_of_ble_eq_true rfl) rfl ?_
  refine g_weak (lv1 := [(0, .ref (ad X 10)), (2, .int a2), (3, .int a3), (4, .int a1), (5, .int a2), (6, .int a1)]) [3, 5, 6, 2, 1, 0] rfl ?_
  exact s_X5_merge_l9 C a2 a3 _ (a1, a2, a1, S) _ h
theorem c_X5_merge (l : Launch) (b : Bw) (a1 : Int32) (a2 : Int32) (a3 : Int32) (S : St) : Ct l b yX5_merge wsX5_merge rmX5_merge [.ref (bad b 10), .int a1, .int a2, .int a3] S mkV (f_X5_merge a1 a2 a3 S) := Ct.of (by decide +kernel) rfl (Nat.le_of_ble_eq_true rfl) (fun X C hl hb r h => by
  subst hl; subst hb
  exact s_X5_merge_b0 C a1 a2 a3 S h)
/-! StyleRows$Order.keyOf(LStyleRows$Events;I)J -/
set_option maxRecDepth 100000 in
set_option maxHeartbeats 4000000 in
theorem s_X5_keyOf_b0 {X : MC} (C : Cx X cX5_keyOf RX5 wsX5_keyOf 4 rmX5_keyOf (some .long)) (a2 : Int32) (S : St) {r0 : Int64 × St} (h : f_X5_keyOf_b0 a2 S = some r0) : G X (QM mkL X r0) S 0 [(0, .ref (ad X 9)), (1, .int a2)] [] := by
  unfold f_X5_keyOf_b0 at h
  refine g_aload_n (pc := 0) C dX5_keyOf_0 rfl 0 rfl ?_
  refine g_getN (pc := 1) C 9 (w_9 _ _) rfl 0 (Nat.le_of_ble_eq_true rfl) in_X1_X5_keyOf nw_X5_38 rfl dX5_keyOf_1 ?_
  refine g_iconst (pc := 4) (v := 0) C dX5_keyOf_4 (by decide) ?_
  refine g_aaldc (pc := 5) (i := 0) C 31 32 (w_31 _ _) rfl rfl dX5_keyOf_5 ?_
  refine g_iload_n (pc := 6) C dX5_keyOf_6 rfl 1 rfl ?_
  refine g_iald (pc := 7) C 32 (w_32 _ _) h dX5_keyOf_7 (fun h => ?_)
  refine g_i2l (pc := 8) C dX5_keyOf_8 ?_
  refine g_letl h (fun y1 h => ?_)
  refine g_lstore_n (pc := 9) C [(2, .long y1), (0, .ref (ad X 9)), (1, .int a2)] dX5_keyOf_9 rfl (Nat.le_of_ble_eq_true rfl) rfl ?_
  refine g_lload_n (pc := 10) C dX5_keyOf_10 rfl 0 rfl ?_
  refine g_ldc2 (pc := 11) (v := 4) C k42_X5_keyOf dX5_keyOf_11 ?_
  refine g_lmul (pc := 14) C dX5_keyOf_14 ?_
  refine g_aload_n (pc := 15) C dX5_keyOf_15 rfl 1 rfl ?_
  refine g_getN (pc := 16) C 9 (w_9 _ _) rfl 0 (Nat.le_of_ble_eq_true rfl) in_X1_X5_keyOf nw_X5_38 rfl dX5_keyOf_16 ?_
  refine g_bipush (pc := 19) (v := 6) C dX5_keyOf_19 (by decide) ?_
  refine g_aaldc (pc := 21) (i := 6) C 31 38 (w_31 _ _) rfl rfl dX5_keyOf_21 ?_
  refine g_iload_n (pc := 22) C dX5_keyOf_22 rfl 2 rfl ?_
  refine g_iald (pc := 23) C 38 (w_38 _ _) h dX5_keyOf_23 (fun h => ?_)
  refine g_i2l (pc := 24) C dX5_keyOf_24 ?_
  refine g_ladd (pc := 25) C dX5_keyOf_25 ?_
  refine g_letl h (fun y2 h => ?_)
  refine g_lstore_n (pc := 26) C [(2, .long y2), (0, .ref (ad X 9)), (1, .int a2)] dX5_keyOf_26 rfl (Nat.le_of_ble_eq_true rfl) rfl ?_
  refine g_lload_n (pc := 27) C dX5_keyOf_27 rfl 0 rfl ?_
  refine g_ldc2 (pc := 28) (v := 128) C k44_X5_keyOf dX5_keyOf_28 ?_
  refine g_lmul (pc := 31) C dX5_keyOf_31 ?_
  refine g_aload_n (pc := 32) C dX5_keyOf_32 rfl 1 rfl ?_
  refine g_getN (pc := 33) C 9 (w_9 _ _) rfl 0 (Nat.le_of_ble_eq_true rfl) in_X1_X5_keyOf nw_X5_38 rfl dX5_keyOf_33 ?_
  refine g_iconst (pc := 36) (v := 2) C dX5_keyOf_36 (by decide) ?_
  refine g_aaldc (pc := 37) (i := 2) C 31 34 (w_31 _ _) rfl rfl dX5_keyOf_37 ?_
  refine g_iload_n (pc := 38) C dX5_keyOf_38 rfl 2 rfl ?_
  refine g_iald (pc := 39) C 34 (w_34 _ _) h dX5_keyOf_39 (fun h => ?_)
  refine g_i2l (pc := 40) C dX5_keyOf_40 ?_
  refine g_ladd (pc := 41) C dX5_keyOf_41 ?_
  refine g_letl h (fun y3 h => ?_)
  refine g_lstore_n (pc := 42) C [(2, .long y3), (0, .ref (ad X 9)), (1, .int a2)] dX5_keyOf_42 rfl (Nat.le_of_ble_eq_true rfl) rfl ?_
  refine g_lload_n (pc := 43) C dX5_keyOf_43 rfl 0 rfl ?_
  refine g_ldc2 (pc := 44) (v := 400) C k46_X5_keyOf dX5_keyOf_44 ?_
  refine g_lmul (pc := 47) C dX5_keyOf_47 ?_
  refine g_iload_n (pc := 48) C dX5_keyOf_48 rfl 2 rfl ?_
  refine g_i2l (pc := 49) C dX5_keyOf_49 ?_
  refine g_ladd (pc := 50) C dX5_keyOf_50 ?_
  exact g_lret (pc := 51) C h dX5_keyOf_51
theorem c_X5_keyOf (l : Launch) (b : Bw) (a2 : Int32) (S : St) : Ct l b yX5_keyOf wsX5_keyOf rmX5_keyOf [.ref (bad b 9), .int a2] S mkL (f_X5_keyOf a2 S) := Ct.of (by decide +kernel) rfl (Nat.le_of_ble_eq_true rfl) (fun X C hl hb r h => by
  subst hl; subst hb
  exact s_X5_keyOf_b0 C a2 S h)
/-! StyleRows$Order.sort(LStyleRows$Events;)V -/
set_option maxRecDepth 100000 in
set_option maxHeartbeats 4000000 in
theorem s_X5_sort_b39 {X : MC} (C : Cx X cX5_sort RX5 wsX5_sort 5 rmX5_sort none) {rec31 : Int32 × St → Option (Unit × St)} {rec39 : Int32 × St → Option (Unit × St)} (v2 : Int32) (v3 : Int32) (v4 : Int32) (hrec31 : ∀ (s : Int32 × St) (r : Unit × St), rec31 s = some r → G X (QM mkV X r) s.2 31 [(0, .ref (ad X 10)), (2, .int v2), (3, .int (s.1))] []) (hrec39 : ∀ (s : Int32 × St) (r : Unit × St), rec39 s = some r → G X (QM mkV X r) s.2 39 [(0, .ref (ad X 10)), (2, .int v2), (3, .int v3), (4, .int (s.1))] []) (S : St) {r0 : Unit × St} (h : f_X5_sort_b39 rec31 rec39 v2 v3 v4 S = some r0) : G X (QM mkV X r0) S 39 [(0, .ref (ad X 10)), (2, .int v2), (3, .int v3), (4, .int v4)] [] := by
  unfold f_X5_sort_b39 at h
  refine g_iload (pc := 39) C dX5_sort_39 3 rfl ?_
  refine g_iload_n (pc := 41) C dX5_sort_41 rfl 1 rfl ?_
  refine g_icmp_ge (pc := 42) (tgt := 80) C h dX5_sort_42 (by decide) (fun h => ?_) (fun h => ?_)
  · refine g_aload_n (pc := 80) C dX5_sort_80 rfl 0 rfl ?_
    refine g_get (pc := 81) C 10 (w_10 _ _) rfl 1 (Nat.le_of_ble_eq_true rfl) in_X5_X5_sort k17_X5_sort rfl dX5_sort_81 ?_
    refine g_letr h (fun n2 h => ?_)
    refine g_astore (pc := 84) C [(4, .ref (ad X n2)), (0, .ref (ad X 10)), (2, .int v2), (3, .int v3)] dX5_sort_84 (Nat.le_of_ble_eq_true rfl) rfl ?_
    refine g_aload_n (pc := 86) C dX5_sort_86 rfl 1 rfl ?_
    refine g_aload_n (pc := 87) C dX5_sort_87 rfl 1 rfl ?_
    refine g_get (pc := 88) C 10 (w_10 _ _) rfl 0 (Nat.le_of_ble_eq_true rfl) in_X5_X5_sort k11_X5_sort rfl dX5_sort_88 ?_
    refine g_put (pc := 91) C 10 (w_10 _ _) rfl 1 (Nat.le_of_ble_eq_true rfl) in_X5_X5_sort tyX5_ok nmX5 k17_X5_sort rfl rfl rfl (Nat.le_of_ble_eq_true rfl) (ws_10_1 _ _ _) dX5_sort_91 h (fun S3 h => ?_)
    refine g_aload_n (pc := 94) C dX5_sort_94 rfl 1 rfl ?_
    refine g_aload (pc := 95) C dX5_sort_95 0 rfl ?_
    refine g_put (pc := 97) C 10 (w_10 _ _) rfl 0 (Nat.le_of_ble_eq_true rfl) in_X5_X5_sort tyX5_ok nmX5 k11_X5_sort rfl rfl rfl (Nat.le_of_ble_eq_true rfl) (ws_10_0 _ _ _) dX5_sort_97 h (fun S4 h => ?_)
    refine g_iload_n (pc := 100) C dX5_sort_100 rfl 3 rfl ?_
    refine g_iconst (pc := 101) (v := 2) C dX5_sort_101 (by decide) ?_
    refine g_imul (pc := 102) C dX5_sort_102 ?_
    refine g_leti h (fun x5 h => ?_)
    refine g_istore_n (pc := 103) C [(3, .int x5), (4, .ref (ad X n2)), (0, .ref (ad X 10)), (2, .int v2)] dX5_sort_103 rfl (Nat.le_of_ble_eq_true rfl) rfl ?_
    refine g_goto (pc := 104) (tgt := 31) C dX5_sort_104 (by decide) ?_
    refine g_weak (lv1 := [(0, .ref (ad X 10)), (2, .int v2), (3, .int x5)]) [2, 3, 0] rfl ?_
    exact hrec31 (x5, S4) _ h
  · refine g_aload_n (pc := 45) C dX5_sort_45 rfl 0 rfl ?_
    refine g_iload (pc := 46) C dX5_sort_46 3 rfl ?_
    refine g_iload (pc := 48) C dX5_sort_48 3 rfl ?_
    refine g_iload_n (pc := 50) C dX5_sort_50 rfl 2 rfl ?_
    refine g_iadd (pc := 51) C dX5_sort_51 ?_
    refine g_iload_n (pc := 52) C dX5_sort_52 rfl 1 rfl ?_
    refine g_mmin (pc := 53) C k28_X5_sort kstmin_X5_sort kini_X5_sort kcomin_X5_sort (Nat.le_of_ble_eq_true rfl) (Nat.le_of_ble_eq_true rfl) dX5_sort_53 ?_
    refine g_iload (pc := 56) C dX5_sort_56 3 rfl ?_
    refine g_iconst (pc := 58) (v := 2) C dX5_sort_58 (by decide) ?_
    refine g_iload_n (pc := 59) C dX5_sort_59 rfl 2 rfl ?_
    refine g_imul (pc := 60) C dX5_sort_60 ?_
    refine g_iadd (pc := 61) C dX5_sort_61 ?_
    refine g_iload_n (pc := 62) C dX5_sort_62 rfl 1 rfl ?_
    refine g_mmin (pc := 63) C k28_X5_sort kstmin_X5_sort kini_X5_sort kcomin_X5_sort (Nat.le_of_ble_eq_true rfl) (Nat.le_of_ble_eq_true rfl) dX5_sort_63 ?_
    refine g_callV (pc := 66) C 10 (c_X5_merge (Xl X) (Xb X) v4 (imin (v4 + v3) v2) (imin (v4 + (2 * v3)) v2) S) gX5_sort_X5_merge rfl rfl rfl hd_X5_merge ⟨Nat.le_of_ble_eq_true rfl, Nat.le_of_ble_eq_true rfl⟩ (w_10 _ _) rfl rfl rfl (Nat.le_of_ble_eq_true rfl) dX5_sort_66 h (fun _u6 S6 h => ?_)
    change G X _ S6 69 [(0, .ref (ad X 10)), (2, .int v2), (3, .int v3), (4, .int v4)] []
    refine g_iload (pc := 69) C dX5_sort_69 3 rfl ?_
    refine g_iconst (pc := 71) (v := 2) C dX5_sort_71 (by decide) ?_
    refine g_iload_n (pc := 72) C dX5_sort_72 rfl 2 rfl ?_
    refine g_imul (pc := 73) C dX5_sort_73 ?_
    refine g_iadd (pc := 74) C dX5_sort_74 ?_
    refine g_leti h (fun x7 h => ?_)
    refine g_istore (pc := 75) C [(4, .int x7), (0, .ref (ad X 10)), (2, .int v2), (3, .int v3)] dX5_sort_75 (Nat.le_of_ble_eq_true rfl) rfl ?_
    refine g_goto (pc := 77) (tgt := 39) C dX5_sort_77 (by decide) ?_
    refine g_weak (lv1 := [(0, .ref (ad X 10)), (2, .int v2), (3, .int v3), (4, .int x7)]) [1, 2, 3, 0] rfl ?_
    exact hrec39 (x7, S6) _ h
set_option maxRecDepth 100000 in
set_option maxHeartbeats 4000000 in
theorem s_X5_sort_l39 {X : MC} (C : Cx X cX5_sort RX5 wsX5_sort 5 rmX5_sort none) {rec31 : Int32 × St → Option (Unit × St)} (v2 : Int32) (v3 : Int32) (hrec31 : ∀ (s : Int32 × St) (r : Unit × St), rec31 s = some r → G X (QM mkV X r) s.2 31 [(0, .ref (ad X 10)), (2, .int v2), (3, .int (s.1))] []) : ∀ (n : Nat) (s : Int32 × St) (r : Unit × St), f_X5_sort_l39 rec31 v2 v3 n s = some r → G X (QM mkV X r) s.2 39 [(0, .ref (ad X 10)), (2, .int v2), (3, .int v3), (4, .int (s.1))] [] :=
  loop_sound (fun rec39 hrec39 s r h => s_X5_sort_b39 C v2 v3 s.1 hrec31 hrec39 s.2 h)
set_option maxRecDepth 100000 in
set_option maxHeartbeats 4000000 in
theorem s_X5_sort_b31 {X : MC} (C : Cx X cX5_sort RX5 wsX5_sort 5 rmX5_sort none) {rec31 : Int32 × St → Option (Unit × St)} (v2 : Int32) (v3 : Int32) (hrec31 : ∀ (s : Int32 × St) (r : Unit × St), rec31 s = some r → G X (QM mkV X r) s.2 31 [(0, .ref (ad X 10)), (2, .int v2), (3, .int (s.1))] []) (S : St) {r0 : Unit × St} (h : f_X5_sort_b31 rec31 v2 v3 S = some r0) : G X (QM mkV X r0) S 31 [(0, .ref (ad X 10)), (2, .int v2), (3, .int v3)] [] := by
  unfold f_X5_sort_b31 at h
  refine g_iload_n (pc := 31) C dX5_sort_31 rfl 2 rfl ?_
  refine g_iload_n (pc := 32) C dX5_sort_32 rfl 1 rfl ?_
  refine g_icmp_ge (pc := 33) (tgt := 107) C h dX5_sort_33 (by decide) (fun h => ?_) (fun h => ?_)
  · exact g_vret (pc := 107) C h dX5_sort_107
  · refine g_iconst (pc := 36) (v := 0) C dX5_sort_36 (by decide) ?_
    refine g_istore (pc := 37) C [(4, .int 0), (0, .ref (ad X 10)), (2, .int v2), (3, .int v3)] dX5_sort_37 (Nat.le_of_ble_eq_true rfl) rfl ?_
    refine g_weak (lv1 := [(0, .ref (ad X 10)), (2, .int v2), (3, .int v3), (4, .int 0)]) [1, 2, 3, 0] rfl ?_
    exact s_X5_sort_l39 C v2 v3 hrec31 _ (0, S) _ h
set_option maxRecDepth 100000 in
set_option maxHeartbeats 4000000 in
theorem s_X5_sort_l31 {X : MC} (C : Cx X cX5_sort RX5 wsX5_sort 5 rmX5_sort none) (v2 : Int32) : ∀ (n : Nat) (s : Int32 × St) (r : Unit × St), f_X5_sort_l31 v2 n s = some r → G X (QM mkV X r) s.2 31 [(0, .ref (ad X 10)), (2, .int v2), (3, .int (s.1))] [] :=
  loop_sound (fun rec31 hrec31 s r h => s_X5_sort_b31 C v2 s.1 hrec31 s.2 h)
set_option maxRecDepth 100000 in
set_option maxHeartbeats 4000000 in
theorem s_X5_sort_b7 {X : MC} (C : Cx X cX5_sort RX5 wsX5_sort 5 rmX5_sort none) {rec7 : Int32 × St → Option (Unit × St)} (v2 : Int32) (v3 : Int32) (hrec7 : ∀ (s : Int32 × St) (r : Unit × St), rec7 s = some r → G X (QM mkV X r) s.2 7 [(0, .ref (ad X 10)), (1, .ref (ad X 9)), (2, .int v2), (3, .int (s.1))] []) (S : St) {r0 : Unit × St} (h : f_X5_sort_b7 rec7 v2 v3 S = some r0) : G X (QM mkV X r0) S 7 [(0, .ref (ad X 10)), (1, .ref (ad X 9)), (2, .int v2), (3, .int v3)] [] := by
  unfold f_X5_sort_b7 at h
  refine g_iload_n (pc := 7) C dX5_sort_7 rfl 3 rfl ?_
  refine g_iload_n (pc := 8) C dX5_sort_8 rfl 2 rfl ?_
  refine g_icmp_ge (pc := 9) (tgt := 29) C h dX5_sort_9 (by decide) (fun h => ?_) (fun h => ?_)
  · refine g_iconst (pc := 29) (v := 1) C dX5_sort_29 (by decide) ?_
    refine g_istore_n (pc := 30) C [(3, .int 1), (0, .ref (ad X 10)), (1, .ref (ad X 9)), (2, .int v2)] dX5_sort_30 rfl (Nat.le_of_ble_eq_true rfl) rfl ?_
    refine g_weak (lv1 := [(0, .ref (ad X 10)), (2, .int v2), (3, .int 1)]) [1, 3, 0] rfl ?_
    exact s_X5_sort_l31 C v2 _ (1, S) _ h
  · refine g_aload_n (pc := 12) C dX5_sort_12 rfl 0 rfl ?_
    refine g_get (pc := 13) C 10 (w_10 _ _) rfl 0 (Nat.le_of_ble_eq_true rfl) in_X5_X5_sort k11_X5_sort rfl dX5_sort_13 ?_
    refine g_iload_n (pc := 16) C dX5_sort_16 rfl 3 rfl ?_
    refine g_aload_n (pc := 17) C dX5_sort_17 rfl 1 rfl ?_
    refine g_iload_n (pc := 18) C dX5_sort_18 rfl 3 rfl ?_
    refine g_callS (pc := 19) C (c_X5_keyOf (Xl X) (Xb X) v3 S) gX5_sort_X5_keyOf rfl rfl rfl hd_X5_keyOf ⟨Nat.le_of_ble_eq_true rfl, Nat.le_of_ble_eq_true rfl⟩ rfl rfl (Nat.le_of_ble_eq_true rfl) dX5_sort_19 h (fun r9 S8 h => ?_)
    change G X _ S8 22 [(0, .ref (ad X 10)), (1, .ref (ad X 9)), (2, .int v2), (3, .int v3)] [.long r9, .int v3, .ref (ad X (gR S 0))]
    refine g_last (pc := 22) C _ h dX5_sort_22 (fun S10 h => ?_)
    refine g_iinc (pc := 23) (v := v3 + 1) C [(3, .int (v3 + 1)), (0, .ref (ad X 10)), (1, .ref (ad X 9)), (2, .int v2)] dX5_sort_23 3 rfl rfl (Nat.le_of_ble_eq_true rfl) rfl ?_
    refine g_goto (pc := 26) (tgt := 7) C dX5_sort_26 (by decide) ?_
    refine g_weak (lv1 := [(0, .ref (ad X 10)), (1, .ref (ad X 9)), (2, .int v2), (3, .int (v3 + 1))]) [1, 2, 3, 0] rfl ?_
    exact hrec7 (v3 + 1, S10) _ h
set_option maxRecDepth 100000 in
set_option maxHeartbeats 4000000 in
theorem s_X5_sort_l7 {X : MC} (C : Cx X cX5_sort RX5 wsX5_sort 5 rmX5_sort none) (v2 : Int32) : ∀ (n : Nat) (s : Int32 × St) (r : Unit × St), f_X5_sort_l7 v2 n s = some r → G X (QM mkV X r) s.2 7 [(0, .ref (ad X 10)), (1, .ref (ad X 9)), (2, .int v2), (3, .int (s.1))] [] :=
  loop_sound (fun rec7 hrec7 s r h => s_X5_sort_b7 C v2 s.1 hrec7 s.2 h)
set_option maxRecDepth 100000 in
set_option maxHeartbeats 4000000 in
theorem s_X5_sort_b0 {X : MC} (C : Cx X cX5_sort RX5 wsX5_sort 5 rmX5_sort none) (S : St) {r0 : Unit × St} (h : f_X5_sort_b0 S = some r0) : G X (QM mkV X r0) S 0 [(0, .ref (ad X 10)), (1, .ref (ad X 9))] [] := by
  unfold f_X5_sort_b0 at h
  refine g_aload_n (pc := 0) C dX5_sort_0 rfl 1 rfl ?_
  refine g_getN (pc := 1) C 9 (w_9 _ _) rfl 1 (Nat.le_of_ble_eq_true rfl) in_X1_X5_sort nw_X5_20 rfl dX5_sort_1 ?_
  refine g_leti h (fun x1 h => ?_)
  refine g_istore_n (pc := 4) C [(2, .int x1), (0, .ref (ad X 10)), (1, .ref (ad X 9))] dX5_sort_4 rfl (Nat.le_of_ble_eq_true rfl) rfl ?_
  refine g_iconst (pc := 5) (v := 0) C dX5_sort_5 (by decide) ?_
  refine g_istore_n (pc := 6) C [(3, .int 0), (2, .int x1), (0, .ref (ad X 10)), (1, .ref (ad X 9))] dX5_sort_6 rfl (Nat.le_of_ble_eq_true rfl) rfl ?_
  refine g_weak (lv1 := [(0, .ref (ad X 10)), (1, .ref (ad X 9)), (2, .int x1), (3, .int 0)]) [2, 3, 1, 0] rfl ?_
  exact s_X5_sort_l7 C x1 _ (0, S) _ h
theorem c_X5_sort (l : Launch) (b : Bw) (S : St) : Ct l b yX5_sort wsX5_sort rmX5_sort [.ref (bad b 10), .ref (bad b 9)] S mkV (f_X5_sort S) := Ct.of (by decide +kernel) rfl (Nat.le_of_ble_eq_true rfl) (fun X C hl hb r h => by
  subst hl; subst hb
  exact s_X5_sort_b0 C S h)
/-! StyleRows$Order.partAt(I)I -/
set_option maxRecDepth 100000 in
set_option maxHeartbeats 4000000 in
theorem s_X5_partAt_b0 {X : MC} (C : Cx X cX5_partAt RX5 wsX5_partAt 2 rmX5_partAt (some .int)) (a1 : Int32) (S : St) {r0 : Int32 × St} (h : f_X5_partAt_b0 a1 S = some r0) : G X (QM mkI X r0) S 0 [(0, .ref (ad X 10)), (1, .int a1)] [] := by
  unfold f_X5_partAt_b0 at h
  refine g_aload_n (pc := 0) C dX5_partAt_0 rfl 0 rfl ?_
  refine g_get (pc := 1) C 10 (w_10 _ _) rfl 0 (Nat.le_of_ble_eq_true rfl) in_X5_X5_partAt k11_X5_partAt rfl dX5_partAt_1 ?_
  refine g_iload_n (pc := 4) C dX5_partAt_4 rfl 1 rfl ?_
  refine g_lald (pc := 5) C _ h dX5_partAt_5 (fun h => ?_)
  refine g_sipush (pc := 6) (v := 400) C dX5_partAt_6 (by decide) ?_
  refine g_callS (pc := 9) C (c_J9_floorMod_1978a (Xl X) (Xb X) (rdL S (gR S 0) a1) 400 S) gX5_partAt_J9_floorMod_1978a rfl rfl rfl hd_J9_floorMod_1978a ⟨Nat.le_of_ble_eq_true rfl, Nat.le_of_ble_eq_true rfl⟩ rfl rfl (Nat.le_of_ble_eq_true rfl) dX5_partAt_9 h (fun r2 S1 h => ?_)
  change G X _ S1 12 [(0, .ref (ad X 10)), (1, .int a1)] [.int r2]
  exact g_iret (pc := 12) C h dX5_partAt_12
theorem c_X5_partAt (l : Launch) (b : Bw) (a1 : Int32) (S : St) : Ct l b yX5_partAt wsX5_partAt rmX5_partAt [.ref (bad b 10), .int a1] S mkI (f_X5_partAt a1 S) := Ct.of (by decide +kernel) rfl (Nat.le_of_ble_eq_true rfl) (fun X C hl hb r h => by
  subst hl; subst hb
  exact s_X5_partAt_b0 C a1 S h)
/-! StyleRows$Events.takeInOrder(LStyleRows$Events;LStyleRows$Order;)V -/
set_option maxRecDepth 100000 in
set_option maxHeartbeats 4000000 in
theorem s_X1_takeInOrder_b28 {X : MC} (C : Cx X cX1_takeInOrder RX1 wsX1_takeInOrder 6 rmX1_takeInOrder none) {rec10 : Int32 × St → Option (Unit × St)} {rec28 : Int32 × St → Option (Unit × St)} (v3 : Int32) (v4 : Int32) (v5 : Int32) (hrec10 : ∀ (s : Int32 × St) (r : Unit × St), rec10 s = some r → G X (QM mkV X r) s.2 10 [(0, .ref (ad X 11)), (1, .ref (ad X 9)), (2, .ref (ad X 10)), (3, .int (s.1))] []) (hrec28 : ∀ (s : Int32 × St) (r : Unit × St), rec28 s = some r → G X (QM mkV X r) s.2 28 [(0, .ref (ad X 11)), (1, .ref (ad X 9)), (2, .ref (ad X 10)), (3, .int v3), (4, .int v4), (5, .int (s.1))] []) (S : St) {r0 : Unit × St} (h : f_X1_takeInOrder_b28 rec10 rec28 v3 v4 v5 S = some r0) : G X (QM mkV X r0) S 28 [(0, .ref (ad X 11)), (1, .ref (ad X 9)), (2, .ref (ad X 10)), (3, .int v3), (4, .int v4), (5, .int v5)] [] := by
  unfold f_X1_takeInOrder_b28 at h
  refine g_iload (pc := 28) C dX1_takeInOrder_28 5 rfl ?_
  refine g_bipush (pc := 30) (v := 7) C dX1_takeInOrder_30 (by decide) ?_
  refine g_icmp_ge (pc := 32) (tgt := 60) C h dX1_takeInOrder_32 (by decide) (fun h => ?_) (fun h => ?_)
  · refine g_iinc (pc := 60) (v := v3 + 1) C [(3, .int (v3 + 1)), (0, .ref (ad X 11)), (1, .ref (ad X 9)), (2, .ref (ad X 10)), (4, .int v4), (5, .int v5)] dX1_takeInOrder_60 3 rfl rfl (Nat.le_of_ble_eq_true rfl) rfl ?_
    refine g_goto (pc := 63) (tgt := 10) C dX1_takeInOrder_63 (by decide) ?_
    refine g_weak (lv1 := [(0, .ref (ad X 11)), (1, .ref (ad X 9)), (2, .ref (ad X 10)), (3, .int (v3 + 1))]) [1, 2, 3, 0] rfl ?_
    exact hrec10 (v3 + 1, S) _ h
  · refine g_aload_n (pc := 35) C dX1_takeInOrder_35 rfl 0 rfl ?_
    refine g_get (pc := 36) C 11 (w_11 _ _) rfl 0 (Nat.le_of_ble_eq_true rfl) in_X1_X1_takeInOrder k13_X1_takeInOrder rfl dX1_takeInOrder_36 ?_
    refine g_iload (pc := 39) C dX1_takeInOrder_39 5 rfl ?_
    refine g_aald (pc := 41) C 41 _ (w_41 _ _) rfl h dX1_takeInOrder_41 (fun hn4 h => ?_)
    refine g_iload_n (pc := 42) C dX1_takeInOrder_42 rfl 3 rfl ?_
    refine g_aload_n (pc := 43) C dX1_takeInOrder_43 rfl 1 rfl ?_
    refine g_get (pc := 44) C 9 (w_9 _ _) rfl 0 (Nat.le_of_ble_eq_true rfl) in_X1_X1_takeInOrder k13_X1_takeInOrder rfl dX1_takeInOrder_44 ?_
    refine g_iload (pc := 47) C dX1_takeInOrder_47 5 rfl ?_
    refine g_aald (pc := 49) C 31 _ (w_31 _ _) rfl h dX1_takeInOrder_49 (fun hn5 h => ?_)
    refine g_iload (pc := 50) C dX1_takeInOrder_50 4 rfl ?_
    refine g_iald (pc := 52) C _ (wg_31 _ _ _ hn5) h dX1_takeInOrder_52 (fun h => ?_)
    refine g_iast (pc := 53) C _ (wg_41 _ _ _ hn4) (wgs_41 _ _ _ hn4) h dX1_takeInOrder_53 (fun S6 h => ?_)
    refine g_iinc (pc := 54) (v := v5 + 1) C [(5, .int (v5 + 1)), (0, .ref (ad X 11)), (1, .ref (ad X 9)), (2, .ref (ad X 10)), (3, .int v3), (4, .int v4)] dX1_takeInOrder_54 5 rfl rfl (Nat.le_of_ble_eq_true rfl) rfl ?_
    refine g_goto (pc := 57) (tgt := 28) C dX1_takeInOrder_57 (by decide) ?_
    refine g_weak (lv1 := [(0, .ref (ad X 11)), (1, .ref (ad X 9)), (2, .ref (ad X 10)), (3, .int v3), (4, .int v4), (5, .int (v5 + 1))]) [1, 2, 3, 4, 5, 0] rfl ?_
    exact hrec28 (v5 + 1, S6) _ h
set_option maxRecDepth 100000 in
set_option maxHeartbeats 4000000 in
theorem s_X1_takeInOrder_l28 {X : MC} (C : Cx X cX1_takeInOrder RX1 wsX1_takeInOrder 6 rmX1_takeInOrder none) {rec10 : Int32 × St → Option (Unit × St)} (v3 : Int32) (v4 : Int32) (hrec10 : ∀ (s : Int32 × St) (r : Unit × St), rec10 s = some r → G X (QM mkV X r) s.2 10 [(0, .ref (ad X 11)), (1, .ref (ad X 9)), (2, .ref (ad X 10)), (3, .int (s.1))] []) : ∀ (n : Nat) (s : Int32 × St) (r : Unit × St), f_X1_takeInOrder_l28 rec10 v3 v4 n s = some r → G X (QM mkV X r) s.2 28 [(0, .ref (ad X 11)), (1, .ref (ad X 9)), (2, .ref (ad X 10)), (3, .int v3), (4, .int v4), (5, .int (s.1))] [] :=
  loop_sound (fun rec28 hrec28 s r h => s_X1_takeInOrder_b28 C v3 v4 s.1 hrec10 hrec28 s.2 h)
set_option maxRecDepth 100000 in
set_option maxHeartbeats 4000000 in
theorem s_X1_takeInOrder_b10 {X : MC} (C : Cx X cX1_takeInOrder RX1 wsX1_takeInOrder 6 rmX1_takeInOrder none) {rec10 : Int32 × St → Option (Unit × St)} (v3 : Int32) (hrec10 : ∀ (s : Int32 × St) (r : Unit × St), rec10 s = some r → G X (QM mkV X r) s.2 10 [(0, .ref (ad X 11)), (1, .ref (ad X 9)), (2, .ref (ad X 10)), (3, .int (s.1))] []) (S : St) {r0 : Unit × St} (h : f_X1_takeInOrder_b10 rec10 v3 S = some r0) : G X (QM mkV X r0) S 10 [(0, .ref (ad X 11)), (1, .ref (ad X 9)), (2, .ref (ad X 10)), (3, .int v3)] [] := by
  unfold f_X1_takeInOrder_b10 at h
  refine g_iload_n (pc := 10) C dX1_takeInOrder_10 rfl 3 rfl ?_
  refine g_aload_n (pc := 11) C dX1_takeInOrder_11 rfl 0 rfl ?_
  refine g_get (pc := 12) C 11 (w_11 _ _) rfl 1 (Nat.le_of_ble_eq_true rfl) in_X1_X1_takeInOrder k16_X1_takeInOrder rfl dX1_takeInOrder_12 ?_
  refine g_icmp_ge (pc := 15) (tgt := 66) C h dX1_takeInOrder_15 (by decide) (fun h => ?_) (fun h => ?_)
  · exact g_vret (pc := 66) C h dX1_takeInOrder_66
  · refine g_aload_n (pc := 18) C dX1_takeInOrder_18 rfl 2 rfl ?_
    refine g_iload_n (pc := 19) C dX1_takeInOrder_19 rfl 3 rfl ?_
    refine g_callV (pc := 20) C 10 (c_X5_partAt (Xl X) (Xb X) v3 S) gX1_takeInOrder_X5_partAt rfl rfl rfl hd_X5_partAt ⟨Nat.le_of_ble_eq_true rfl, Nat.le_of_ble_eq_true rfl⟩ (w_10 _ _) rfl rfl rfl (Nat.le_of_ble_eq_true rfl) dX1_takeInOrder_20 h (fun r3 S2 h => ?_)
    change G X _ S2 23 [(0, .ref (ad X 11)), (1, .ref (ad X 9)), (2, .ref (ad X 10)), (3, .int v3)] [.int r3]
    refine g_istore (pc := 23) C [(4, .int r3), (0, .ref (ad X 11)), (1, .ref (ad X 9)), (2, .ref (ad X 10)), (3, .int v3)] dX1_takeInOrder_23 (Nat.le_of_ble_eq_true rfl) rfl ?_
    refine g_iconst (pc := 25) (v := 0) C dX1_takeInOrder_25 (by decide) ?_
    refine g_istore (pc := 26) C [(5, .int 0), (4, .int r3), (0, .ref (ad X 11)), (1, .ref (ad X 9)), (2, .ref (ad X 10)), (3, .int v3)] dX1_takeInOrder_26 (Nat.le_of_ble_eq_true rfl) rfl ?_
    refine g_weak (lv1 := [(0, .ref (ad X 11)), (1, .ref (ad X 9)), (2, .ref (ad X 10)), (3, .int v3), (4, .int r3), (5, .int 0)]) [2, 3, 4, 5, 1, 0] rfl ?_
    exact s_X1_takeInOrder_l28 C v3 r3 hrec10 _ (0, S2) _ h
set_option maxRecDepth 100000 in
set_option maxHeartbeats 4000000 in
theorem s_X1_takeInOrder_l10 {X : MC} (C : Cx X cX1_takeInOrder RX1 wsX1_takeInOrder 6 rmX1_takeInOrder none) : ∀ (n : Nat) (s : Int32 × St) (r : Unit × St), f_X1_takeInOrder_l10 n s = some r → G X (QM mkV X r) s.2 10 [(0, .ref (ad X 11)), (1, .ref (ad X 9)), (2, .ref (ad X 10)), (3, .int (s.1))] [] :=
  loop_sound (fun rec10 hrec10 s r h => s_X1_takeInOrder_b10 C s.1 hrec10 s.2 h)
set_option maxRecDepth 100000 in
set_option maxHeartbeats 4000000 in
theorem s_X1_takeInOrder_b0 {X : MC} (C : Cx X cX1_takeInOrder RX1 wsX1_takeInOrder 6 rmX1_takeInOrder none) (S : St) {r0 : Unit × St} (h : f_X1_takeInOrder_b0 S = some r0) : G X (QM mkV X r0) S 0 [(0, .ref (ad X 11)), (1, .ref (ad X 9)), (2, .ref (ad X 10))] [] := by
  unfold f_X1_takeInOrder_b0 at h
  refine g_aload_n (pc := 0) C dX1_takeInOrder_0 rfl 0 rfl ?_
  refine g_aload_n (pc := 1) C dX1_takeInOrder_1 rfl 1 rfl ?_
  refine g_get (pc := 2) C 9 (w_9 _ _) rfl 1 (Nat.le_of_ble_eq_true rfl) in_X1_X1_takeInOrder k16_X1_takeInOrder rfl dX1_takeInOrder_2 ?_
  refine g_put (pc := 5) C 11 (w_11 _ _) rfl 1 (Nat.le_of_ble_eq_true rfl) in_X1_X1_takeInOrder tyX1_ok nmX1 k16_X1_takeInOrder rfl rfl rfl (Nat.le_of_ble_eq_true rfl) (ws_11_1 _ _ _) dX1_takeInOrder_5 h (fun S1 h => ?_)
  refine g_iconst (pc := 8) (v := 0) C dX1_takeInOrder_8 (by decide) ?_
  refine g_istore_n (pc := 9) C [(3, .int 0), (0, .ref (ad X 11)), (1, .ref (ad X 9)), (2, .ref (ad X 10))] dX1_takeInOrder_9 rfl (Nat.le_of_ble_eq_true rfl) rfl ?_
  refine g_weak (lv1 := [(0, .ref (ad X 11)), (1, .ref (ad X 9)), (2, .ref (ad X 10)), (3, .int 0)]) [1, 2, 3, 0] rfl ?_
  exact s_X1_takeInOrder_l10 C  _ (0, S1) _ h
theorem c_X1_takeInOrder (l : Launch) (b : Bw) (S : St) : Ct l b yX1_takeInOrder wsX1_takeInOrder rmX1_takeInOrder [.ref (bad b 11), .ref (bad b 9), .ref (bad b 10)] S mkV (f_X1_takeInOrder S) := Ct.of (by decide +kernel) rfl (Nat.le_of_ble_eq_true rfl) (fun X C hl hb r h => by
  subst hl; subst hb
  exact s_X1_takeInOrder_b0 C S h)
/-! StyleRows$Events.endOf(I)I -/
set_option maxRecDepth 100000 in
set_option maxHeartbeats 4000000 in
theorem s_X1_endOf_b0 {X : MC} (C : Cx X cX1_endOf RX1 wsX1_endOf 2 rmX1_endOf (some .int)) (a1 : Int32) (S : St) {r0 : Int32 × St} (h : f_X1_endOf_b0 a1 S = some r0) : G X (QM mkI X r0) S 0 [(0, .ref (ad X 11)), (1, .int a1)] [] := by
  unfold f_X1_endOf_b0 at h
  refine g_aload_n (pc := 0) C dX1_endOf_0 rfl 0 rfl ?_
  refine g_get (pc := 1) C 11 (w_11 _ _) rfl 0 (Nat.le_of_ble_eq_true rfl) in_X1_X1_endOf k13_X1_endOf rfl dX1_endOf_1 ?_
  refine g_iconst (pc := 4) (v := 0) C dX1_endOf_4 (by decide) ?_
  refine g_aaldc (pc := 5) (i := 0) C 41 42 (w_41 _ _) rfl rfl dX1_endOf_5 ?_
  refine g_iload_n (pc := 6) C dX1_endOf_6 rfl 1 rfl ?_
  refine g_iald (pc := 7) C 42 (w_42 _ _) h dX1_endOf_7 (fun h => ?_)
  refine g_aload_n (pc := 8) C dX1_endOf_8 rfl 0 rfl ?_
  refine g_get (pc := 9) C 11 (w_11 _ _) rfl 0 (Nat.le_of_ble_eq_true rfl) in_X1_X1_endOf k13_X1_endOf rfl dX1_endOf_9 ?_
  refine g_iconst (pc := 12) (v := 1) C dX1_endOf_12 (by decide) ?_
  refine g_aaldc (pc := 13) (i := 1) C 41 43 (w_41 _ _) rfl rfl dX1_endOf_13 ?_
  refine g_iload_n (pc := 14) C dX1_endOf_14 rfl 1 rfl ?_
  refine g_iald (pc := 15) C 43 (w_43 _ _) h dX1_endOf_15 (fun h => ?_)
  refine g_iadd (pc := 16) C dX1_endOf_16 ?_
  exact g_iret (pc := 17) C h dX1_endOf_17
theorem c_X1_endOf (l : Launch) (b : Bw) (a1 : Int32) (S : St) : Ct l b yX1_endOf wsX1_endOf rmX1_endOf [.ref (bad b 11), .int a1] S mkI (f_X1_endOf a1 S) := Ct.of (by decide +kernel) rfl (Nat.le_of_ble_eq_true rfl) (fun X C hl hb r h => by
  subst hl; subst hb
  exact s_X1_endOf_b0 C a1 S h)
/-! StyleRows$Events.repeats(II)Z -/
set_option maxRecDepth 100000 in
set_option maxHeartbeats 4000000 in
theorem s_X1_repeats_b74 {X : MC} (C : Cx X cX1_repeats RX1 wsX1_repeats 4 rmX1_repeats (some .boolean)) (w0 : Int32) (S : St) {r0 : Int32 × St} (h : f_X1_repeats_b74 w0 S = some r0) : G X (QM mkI X r0) S 74 [] [.int w0] := by
  unfold f_X1_repeats_b74 at h
  exact g_zret (pc := 74) C h dX1_repeats_74
set_option maxRecDepth 100000 in
set_option maxHeartbeats 4000000 in
theorem s_X1_repeats_b73 {X : MC} (C : Cx X cX1_repeats RX1 wsX1_repeats 4 rmX1_repeats (some .boolean)) (S : St) {r0 : Int32 × St} (h : f_X1_repeats_b73 S = some r0) : G X (QM mkI X r0) S 73 [] [] := by
  unfold f_X1_repeats_b73 at h
  refine g_iconst (pc := 73) (v := 0) C dX1_repeats_73 (by decide) ?_
  refine g_weak (lv1 := []) [] rfl ?_
  exact s_X1_repeats_b74 C 0  S h
set_option maxRecDepth 100000 in
set_option maxHeartbeats 4000000 in
theorem s_X1_repeats_b45 {X : MC} (C : Cx X cX1_repeats RX1 wsX1_repeats 4 rmX1_repeats (some .boolean)) (v1 : Int32) (v2 : Int32) (w0 : Int32) (S : St) {r0 : Int32 × St} (h : f_X1_repeats_b45 v1 v2 w0 S = some r0) : G X (QM mkI X r0) S 45 [(0, .ref (ad X 11)), (1, .int v1), (2, .int v2)] [.int w0] := by
  unfold f_X1_repeats_b45 at h
  refine g_istore_n (pc := 45) C [(3, .int w0), (0, .ref (ad X 11)), (1, .int v1), (2, .int v2)] dX1_repeats_45 rfl (Nat.le_of_ble_eq_true rfl) rfl ?_
  refine g_iload_n (pc := 46) C dX1_repeats_46 rfl 0 rfl ?_
  refine g_if_eq (pc := 47) (tgt := 73) C h dX1_repeats_47 (by decide) (fun h => ?_) (fun h => ?_)
  · refine g_weak (lv1 := []) [] rfl ?_
    exact s_X1_repeats_b73 C   S h
  · refine g_aload_n (pc := 50) C dX1_repeats_50 rfl 1 rfl ?_
    refine g_get (pc := 51) C 11 (w_11 _ _) rfl 0 (Nat.le_of_ble_eq_true rfl) in_X1_X1_repeats k13_X1_repeats rfl dX1_repeats_51 ?_
    refine g_iconst (pc := 54) (v := 0) C dX1_repeats_54 (by decide) ?_
    refine g_aaldc (pc := 55) (i := 0) C 41 42 (w_41 _ _) rfl rfl dX1_repeats_55 ?_
    refine g_iload_n (pc := 56) C dX1_repeats_56 rfl 2 rfl ?_
    refine g_iald (pc := 57) C 42 (w_42 _ _) h dX1_repeats_57 (fun h => ?_)
    refine g_aload_n (pc := 58) C dX1_repeats_58 rfl 1 rfl ?_
    refine g_get (pc := 59) C 11 (w_11 _ _) rfl 0 (Nat.le_of_ble_eq_true rfl) in_X1_X1_repeats k13_X1_repeats rfl dX1_repeats_59 ?_
    refine g_iconst (pc := 62) (v := 0) C dX1_repeats_62 (by decide) ?_
    refine g_aaldc (pc := 63) (i := 0) C 41 42 (w_41 _ _) rfl rfl dX1_repeats_63 ?_
    refine g_iload_n (pc := 64) C dX1_repeats_64 rfl 3 rfl ?_
    refine g_iald (pc := 65) C 42 (w_42 _ _) h dX1_repeats_65 (fun h => ?_)
    refine g_icmp_le (pc := 66) (tgt := 73) C h dX1_repeats_66 (by decide) (fun h => ?_) (fun h => ?_)
    · refine g_weak (lv1 := []) [] rfl ?_
      exact s_X1_repeats_b73 C   S h
    · refine g_iconst (pc := 69) (v := 1) C dX1_repeats_69 (by decide) ?_
      refine g_goto (pc := 70) (tgt := 74) C dX1_repeats_70 (by decide) ?_
      refine g_weak (lv1 := []) [] rfl ?_
      exact s_X1_repeats_b74 C 1  S h
set_option maxRecDepth 100000 in
set_option maxHeartbeats 4000000 in
theorem s_X1_repeats_b44 {X : MC} (C : Cx X cX1_repeats RX1 wsX1_repeats 4 rmX1_repeats (some .boolean)) (v1 : Int32) (v2 : Int32) (S : St) {r0 : Int32 × St} (h : f_X1_repeats_b44 v1 v2 S = some r0) : G X (QM mkI X r0) S 44 [(0, .ref (ad X 11)), (1, .int v1), (2, .int v2)] [] := by
  unfold f_X1_repeats_b44 at h
  refine g_iconst (pc := 44) (v := 0) C dX1_repeats_44 (by decide) ?_
  refine g_weak (lv1 := [(0, .ref (ad X 11)), (1, .int v1), (2, .int v2)]) [0, 1, 2] rfl ?_
  exact s_X1_repeats_b45 C v1 v2 0  S h
set_option maxRecDepth 100000 in
set_option maxHeartbeats 4000000 in
theorem s_X1_repeats_b0 {X : MC} (C : Cx X cX1_repeats RX1 wsX1_repeats 4 rmX1_repeats (some .boolean)) (a1 : Int32) (a2 : Int32) (S : St) {r0 : Int32 × St} (h : f_X1_repeats_b0 a1 a2 S = some r0) : G X (QM mkI X r0) S 0 [(0, .ref (ad X 11)), (1, .int a1), (2, .int a2)] [] := by
  unfold f_X1_repeats_b0 at h
  refine g_aload_n (pc := 0) C dX1_repeats_0 rfl 0 rfl ?_
  refine g_get (pc := 1) C 11 (w_11 _ _) rfl 0 (Nat.le_of_ble_eq_true rfl) in_X1_X1_repeats k13_X1_repeats rfl dX1_repeats_1 ?_
  refine g_bipush (pc := 4) (v := 6) C dX1_repeats_4 (by decide) ?_
  refine g_aaldc (pc := 6) (i := 6) C 41 48 (w_41 _ _) rfl rfl dX1_repeats_6 ?_
  refine g_iload_n (pc := 7) C dX1_repeats_7 rfl 1 rfl ?_
  refine g_iald (pc := 8) C 48 (w_48 _ _) h dX1_repeats_8 (fun h => ?_)
  refine g_aload_n (pc := 9) C dX1_repeats_9 rfl 0 rfl ?_
  refine g_get (pc := 10) C 11 (w_11 _ _) rfl 0 (Nat.le_of_ble_eq_true rfl) in_X1_X1_repeats k13_X1_repeats rfl dX1_repeats_10 ?_
  refine g_bipush (pc := 13) (v := 6) C dX1_repeats_13 (by decide) ?_
  refine g_aaldc (pc := 15) (i := 6) C 41 48 (w_41 _ _) rfl rfl dX1_repeats_15 ?_
  refine g_iload_n (pc := 16) C dX1_repeats_16 rfl 2 rfl ?_
  refine g_iald (pc := 17) C 48 (w_48 _ _) h dX1_repeats_17 (fun h => ?_)
  refine g_icmp_ne (pc := 18) (tgt := 44) C h dX1_repeats_18 (by decide) (fun h => ?_) (fun h => ?_)
  · refine g_weak (lv1 := [(0, .ref (ad X 11)), (1, .int a1), (2, .int a2)]) [0, 1, 2] rfl ?_
    exact s_X1_repeats_b44 C a1 a2  S h
  · refine g_aload_n (pc := 21) C dX1_repeats_21 rfl 0 rfl ?_
    refine g_get (pc := 22) C 11 (w_11 _ _) rfl 0 (Nat.le_of_ble_eq_true rfl) in_X1_X1_repeats k13_X1_repeats rfl dX1_repeats_22 ?_
    refine g_iconst (pc := 25) (v := 2) C dX1_repeats_25 (by decide) ?_
    refine g_aaldc (pc := 26) (i := 2) C 41 44 (w_41 _ _) rfl rfl dX1_repeats_26 ?_
    refine g_iload_n (pc := 27) C dX1_repeats_27 rfl 1 rfl ?_
    refine g_iald (pc := 28) C 44 (w_44 _ _) h dX1_repeats_28 (fun h => ?_)
    refine g_aload_n (pc := 29) C dX1_repeats_29 rfl 0 rfl ?_
    refine g_get (pc := 30) C 11 (w_11 _ _) rfl 0 (Nat.le_of_ble_eq_true rfl) in_X1_X1_repeats k13_X1_repeats rfl dX1_repeats_30 ?_
    refine g_iconst (pc := 33) (v := 2) C dX1_repeats_33 (by decide) ?_
    refine g_aaldc (pc := 34) (i := 2) C 41 44 (w_41 _ _) rfl rfl dX1_repeats_34 ?_
    refine g_iload_n (pc := 35) C dX1_repeats_35 rfl 2 rfl ?_
    refine g_iald (pc := 36) C 44 (w_44 _ _) h dX1_repeats_36 (fun h => ?_)
    refine g_icmp_ne (pc := 37) (tgt := 44) C h dX1_repeats_37 (by decide) (fun h => ?_) (fun h => ?_)
    · refine g_weak (lv1 := [(0, .ref (ad X 11)), (1, .int a1), (2, .int a2)]) [0, 1, 2] rfl ?_
      exact s_X1_repeats_b44 C a1 a2  S h
    · refine g_iconst (pc := 40) (v := 1) C dX1_repeats_40 (by decide) ?_
      refine g_goto (pc := 41) (tgt := 45) C dX1_repeats_41 (by decide) ?_
      refine g_weak (lv1 := [(0, .ref (ad X 11)), (1, .int a1), (2, .int a2)]) [0, 1, 2] rfl ?_
      exact s_X1_repeats_b45 C a1 a2 1  S h
theorem c_X1_repeats (l : Launch) (b : Bw) (a1 : Int32) (a2 : Int32) (S : St) : Ct l b yX1_repeats wsX1_repeats rmX1_repeats [.ref (bad b 11), .int a1, .int a2] S mkI (f_X1_repeats a1 a2 S) := Ct.of (by decide +kernel) rfl (Nat.le_of_ble_eq_true rfl) (fun X C hl hb r h => by
  subst hl; subst hb
  exact s_X1_repeats_b0 C a1 a2 S h)
/-! StyleRows$Events.endAtRepeat(I)V -/
set_option maxRecDepth 100000 in
set_option maxHeartbeats 4000000 in
theorem s_X1_endAtRepeat_b71 {X : MC} (C : Cx X cX1_endAtRepeat RX1 wsX1_endAtRepeat 4 rmX1_endAtRepeat none) (S : St) {r0 : Unit × St} (h : f_X1_endAtRepeat_b71 S = some r0) : G X (QM mkV X r0) S 71 [] [] := by
  unfold f_X1_endAtRepeat_b71 at h
  exact g_vret (pc := 71) C h dX1_endAtRepeat_71
set_option maxRecDepth 100000 in
set_option maxHeartbeats 4000000 in
theorem s_X1_endAtRepeat_b10 {X : MC} (C : Cx X cX1_endAtRepeat RX1 wsX1_endAtRepeat 4 rmX1_endAtRepeat none) {rec10 : Int32 × St → Option (Unit × St)} (v1 : Int32) (v2 : Int32) (v3 : Int32) (hrec10 : ∀ (s : Int32 × St) (r : Unit × St), rec10 s = some r → G X (QM mkV X r) s.2 10 [(0, .ref (ad X 11)), (1, .int v1), (2, .int v2), (3, .int (s.1))] []) (S : St) {r0 : Unit × St} (h : f_X1_endAtRepeat_b10 rec10 v1 v2 v3 S = some r0) : G X (QM mkV X r0) S 10 [(0, .ref (ad X 11)), (1, .int v1), (2, .int v2), (3, .int v3)] [] := by
  unfold f_X1_endAtRepeat_b10 at h
  refine g_iload_n (pc := 10) C dX1_endAtRepeat_10 rfl 3 rfl ?_
  refine g_aload_n (pc := 11) C dX1_endAtRepeat_11 rfl 0 rfl ?_
  refine g_get (pc := 12) C 11 (w_11 _ _) rfl 1 (Nat.le_of_ble_eq_true rfl) in_X1_X1_endAtRepeat k16_X1_endAtRepeat rfl dX1_endAtRepeat_12 ?_
  refine g_icmp_ge (pc := 15) (tgt := 71) C h dX1_endAtRepeat_15 (by decide) (fun h => ?_) (fun h => ?_)
  · refine g_weak (lv1 := []) [] rfl ?_
    exact s_X1_endAtRepeat_b71 C   S h
  · refine g_aload_n (pc := 18) C dX1_endAtRepeat_18 rfl 0 rfl ?_
    refine g_get (pc := 19) C 11 (w_11 _ _) rfl 0 (Nat.le_of_ble_eq_true rfl) in_X1_X1_endAtRepeat k13_X1_endAtRepeat rfl dX1_endAtRepeat_19 ?_
    refine g_iconst (pc := 22) (v := 0) C dX1_endAtRepeat_22 (by decide) ?_
    refine g_aaldc (pc := 23) (i := 0) C 41 42 (w_41 _ _) rfl rfl dX1_endAtRepeat_23 ?_
    refine g_iload_n (pc := 24) C dX1_endAtRepeat_24 rfl 3 rfl ?_
    refine g_iald (pc := 25) C 42 (w_42 _ _) h dX1_endAtRepeat_25 (fun h => ?_)
    refine g_iload_n (pc := 26) C dX1_endAtRepeat_26 rfl 2 rfl ?_
    refine g_icmp_ge (pc := 27) (tgt := 71) C h dX1_endAtRepeat_27 (by decide) (fun h => ?_) (fun h => ?_)
    · refine g_weak (lv1 := []) [] rfl ?_
      exact s_X1_endAtRepeat_b71 C   S h
    · refine g_aload_n (pc := 30) C dX1_endAtRepeat_30 rfl 0 rfl ?_
      refine g_iload_n (pc := 31) C dX1_endAtRepeat_31 rfl 3 rfl ?_
      refine g_iload_n (pc := 32) C dX1_endAtRepeat_32 rfl 1 rfl ?_
      refine g_callV (pc := 33) C 11 (c_X1_repeats (Xl X) (Xb X) v3 v1 S) gX1_endAtRepeat_X1_repeats rfl rfl rfl hd_X1_repeats ⟨Nat.le_of_ble_eq_true rfl, Nat.le_of_ble_eq_true rfl⟩ (w_11 _ _) rfl rfl rfl (Nat.le_of_ble_eq_true rfl) dX1_endAtRepeat_33 h (fun r5 S4 h => ?_)
      change G X _ S4 36 [(0, .ref (ad X 11)), (1, .int v1), (2, .int v2), (3, .int v3)] [.int r5]
      refine g_if_eq (pc := 36) (tgt := 65) C h dX1_endAtRepeat_36 (by decide) (fun h => ?_) (fun h => ?_)
      · refine g_iinc (pc := 65) (v := v3 + 1) C [(3, .int (v3 + 1)), (0, .ref (ad X 11)), (1, .int v1), (2, .int v2)] dX1_endAtRepeat_65 3 rfl rfl (Nat.le_of_ble_eq_true rfl) rfl ?_
        refine g_goto (pc := 68) (tgt := 10) C dX1_endAtRepeat_68 (by decide) ?_
        refine g_weak (lv1 := [(0, .ref (ad X 11)), (1, .int v1), (2, .int v2), (3, .int (v3 + 1))]) [1, 2, 3, 0] rfl ?_
        exact hrec10 (v3 + 1, S4) _ h
      · refine g_aload_n (pc := 39) C dX1_endAtRepeat_39 rfl 0 rfl ?_
        refine g_get (pc := 40) C 11 (w_11 _ _) rfl 0 (Nat.le_of_ble_eq_true rfl) in_X1_X1_endAtRepeat k13_X1_endAtRepeat rfl dX1_endAtRepeat_40 ?_
        refine g_iconst (pc := 43) (v := 1) C dX1_endAtRepeat_43 (by decide) ?_
        refine g_aaldc (pc := 44) (i := 1) C 41 43 (w_41 _ _) rfl rfl dX1_endAtRepeat_44 ?_
        refine g_iload_n (pc := 45) C dX1_endAtRepeat_45 rfl 1 rfl ?_
        refine g_aload_n (pc := 46) C dX1_endAtRepeat_46 rfl 0 rfl ?_
        refine g_get (pc := 47) C 11 (w_11 _ _) rfl 0 (Nat.le_of_ble_eq_true rfl) in_X1_X1_endAtRepeat k13_X1_endAtRepeat rfl dX1_endAtRepeat_47 ?_
        refine g_iconst (pc := 50) (v := 0) C dX1_endAtRepeat_50 (by decide) ?_
        refine g_aaldc (pc := 51) (i := 0) C 41 42 (w_41 _ _) rfl rfl dX1_endAtRepeat_51 ?_
        refine g_iload_n (pc := 52) C dX1_endAtRepeat_52 rfl 3 rfl ?_
        refine g_iald (pc := 53) C 42 (w_42 _ _) h dX1_endAtRepeat_53 (fun h => ?_)
        refine g_aload_n (pc := 54) C dX1_endAtRepeat_54 rfl 0 rfl ?_
        refine g_get (pc := 55) C 11 (w_11 _ _) rfl 0 (Nat.le_of_ble_eq_true rfl) in_X1_X1_endAtRepeat k13_X1_endAtRepeat rfl dX1_endAtRepeat_55 ?_
        refine g_iconst (pc := 58) (v := 0) C dX1_endAtRepeat_58 (by decide) ?_
        refine g_aaldc (pc := 59) (i := 0) C 41 42 (w_41 _ _) rfl rfl dX1_endAtRepeat_59 ?_
        refine g_iload_n (pc := 60) C dX1_endAtRepeat_60 rfl 1 rfl ?_
        refine g_iald (pc := 61) C 42 (w_42 _ _) h dX1_endAtRepeat_61 (fun h => ?_)
        refine g_isub (pc := 62) C dX1_endAtRepeat_62 ?_
        refine g_iast (pc := 63) C 43 (w_43 _ _) (ws_43 _ _) h dX1_endAtRepeat_63 (fun S6 h => ?_)
        exact g_vret (pc := 64) C h dX1_endAtRepeat_64
set_option maxRecDepth 100000 in
set_option maxHeartbeats 4000000 in
theorem s_X1_endAtRepeat_l10 {X : MC} (C : Cx X cX1_endAtRepeat RX1 wsX1_endAtRepeat 4 rmX1_endAtRepeat none) (v1 : Int32) (v2 : Int32) : ∀ (n : Nat) (s : Int32 × St) (r : Unit × St), f_X1_endAtRepeat_l10 v1 v2 n s = some r → G X (QM mkV X r) s.2 10 [(0, .ref (ad X 11)), (1, .int v1), (2, .int v2), (3, .int (s.1))] [] :=
  loop_sound (fun rec10 hrec10 s r h => s_X1_endAtRepeat_b10 C v1 v2 s.1 hrec10 s.2 h)
set_option maxRecDepth 100000 in
set_option maxHeartbeats 4000000 in
theorem s_X1_endAtRepeat_b0 {X : MC} (C : Cx X cX1_endAtRepeat RX1 wsX1_endAtRepeat 4 rmX1_endAtRepeat none) (a1 : Int32) (S : St) {r0 : Unit × St} (h : f_X1_endAtRepeat_b0 a1 S = some r0) : G X (QM mkV X r0) S 0 [(0, .ref (ad X 11)), (1, .int a1)] [] := by
  unfold f_X1_endAtRepeat_b0 at h
  refine g_aload_n (pc := 0) C dX1_endAtRepeat_0 rfl 0 rfl ?_
  refine g_iload_n (pc := 1) C dX1_endAtRepeat_1 rfl 1 rfl ?_
  refine g_callV (pc := 2) C 11 (c_X1_endOf (Xl X) (Xb X) a1 S) gX1_endAtRepeat_X1_endOf rfl rfl rfl hd_X1_endOf ⟨Nat.le_of_ble_eq_true rfl, Nat.le_of_ble_eq_true rfl⟩ (w_11 _ _) rfl rfl rfl (Nat.le_of_ble_eq_true rfl) dX1_endAtRepeat_2 h (fun r2 S1 h => ?_)
  change G X _ S1 5 [(0, .ref (ad X 11)), (1, .int a1)] [.int r2]
  refine g_istore_n (pc := 5) C [(2, .int r2), (0, .ref (ad X 11)), (1, .int a1)] dX1_endAtRepeat_5 rfl (Nat.le_of_ble_eq_true rfl) rfl ?_
  refine g_iload_n (pc := 6) C dX1_endAtRepeat_6 rfl 2 rfl ?_
  refine g_iconst (pc := 7) (v := 1) C dX1_endAtRepeat_7 (by decide) ?_
  refine g_iadd (pc := 8) C dX1_endAtRepeat_8 ?_
  refine g_leti h (fun x3 h => ?_)
  refine g_istore_n (pc := 9) C [(3, .int x3), (2, .int r2), (0, .ref (ad X 11)), (1, .int a1)] dX1_endAtRepeat_9 rfl (Nat.le_of_ble_eq_true rfl) rfl ?_
  refine g_weak (lv1 := [(0, .ref (ad X 11)), (1, .int a1), (2, .int r2), (3, .int x3)]) [2, 3, 1, 0] rfl ?_
  exact s_X1_endAtRepeat_l10 C a1 r2 _ (x3, S1) _ h
theorem c_X1_endAtRepeat (l : Launch) (b : Bw) (a1 : Int32) (S : St) : Ct l b yX1_endAtRepeat wsX1_endAtRepeat rmX1_endAtRepeat [.ref (bad b 11), .int a1] S mkV (f_X1_endAtRepeat a1 S) := Ct.of (by decide +kernel) rfl (Nat.le_of_ble_eq_true rfl) (fun X C hl hb r h => by
  subst hl; subst hb
  exact s_X1_endAtRepeat_b0 C a1 S h)
/-! StyleRows$Events.endAtRepeats()V -/
set_option maxRecDepth 100000 in
set_option maxHeartbeats 4000000 in
theorem s_X1_endAtRepeats_b2 {X : MC} (C : Cx X cX1_endAtRepeats RX1 wsX1_endAtRepeats 2 rmX1_endAtRepeats none) {rec2 : Int32 × St → Option (Unit × St)} (v1 : Int32) (hrec2 : ∀ (s : Int32 × St) (r : Unit × St), rec2 s = some r → G X (QM mkV X r) s.2 2 [(0, .ref (ad X 11)), (1, .int (s.1))] []) (S : St) {r0 : Unit × St} (h : f_X1_endAtRepeats_b2 rec2 v1 S = some r0) : G X (QM mkV X r0) S 2 [(0, .ref (ad X 11)), (1, .int v1)] [] := by
  unfold f_X1_endAtRepeats_b2 at h
  refine g_iload_n (pc := 2) C dX1_endAtRepeats_2 rfl 1 rfl ?_
  refine g_aload_n (pc := 3) C dX1_endAtRepeats_3 rfl 0 rfl ?_
  refine g_get (pc := 4) C 11 (w_11 _ _) rfl 1 (Nat.le_of_ble_eq_true rfl) in_X1_X1_endAtRepeats k16_X1_endAtRepeats rfl dX1_endAtRepeats_4 ?_
  refine g_icmp_ge (pc := 7) (tgt := 21) C h dX1_endAtRepeats_7 (by decide) (fun h => ?_) (fun h => ?_)
  · exact g_vret (pc := 21) C h dX1_endAtRepeats_21
  · refine g_aload_n (pc := 10) C dX1_endAtRepeats_10 rfl 0 rfl ?_
    refine g_iload_n (pc := 11) C dX1_endAtRepeats_11 rfl 1 rfl ?_
    refine g_callV (pc := 12) C 11 (c_X1_endAtRepeat (Xl X) (Xb X) v1 S) gX1_endAtRepeats_X1_endAtRepeat rfl rfl rfl hd_X1_endAtRepeat ⟨Nat.le_of_ble_eq_true rfl, Nat.le_of_ble_eq_true rfl⟩ (w_11 _ _) rfl rfl rfl (Nat.le_of_ble_eq_true rfl) dX1_endAtRepeats_12 h (fun _u1 S1 h => ?_)
    change G X _ S1 15 [(0, .ref (ad X 11)), (1, .int v1)] []
    refine g_iinc (pc := 15) (v := v1 + 1) C [(1, .int (v1 + 1)), (0, .ref (ad X 11))] dX1_endAtRepeats_15 1 rfl rfl (Nat.le_of_ble_eq_true rfl) rfl ?_
    refine g_goto (pc := 18) (tgt := 2) C dX1_endAtRepeats_18 (by decide) ?_
    refine g_weak (lv1 := [(0, .ref (ad X 11)), (1, .int (v1 + 1))]) [1, 0] rfl ?_
    exact hrec2 (v1 + 1, S1) _ h
set_option maxRecDepth 100000 in
set_option maxHeartbeats 4000000 in
theorem s_X1_endAtRepeats_l2 {X : MC} (C : Cx X cX1_endAtRepeats RX1 wsX1_endAtRepeats 2 rmX1_endAtRepeats none) : ∀ (n : Nat) (s : Int32 × St) (r : Unit × St), f_X1_endAtRepeats_l2 n s = some r → G X (QM mkV X r) s.2 2 [(0, .ref (ad X 11)), (1, .int (s.1))] [] :=
  loop_sound (fun rec2 hrec2 s r h => s_X1_endAtRepeats_b2 C s.1 hrec2 s.2 h)
set_option maxRecDepth 100000 in
set_option maxHeartbeats 4000000 in
theorem s_X1_endAtRepeats_b0 {X : MC} (C : Cx X cX1_endAtRepeats RX1 wsX1_endAtRepeats 2 rmX1_endAtRepeats none) (S : St) {r0 : Unit × St} (h : f_X1_endAtRepeats_b0 S = some r0) : G X (QM mkV X r0) S 0 [(0, .ref (ad X 11))] [] := by
  unfold f_X1_endAtRepeats_b0 at h
  refine g_iconst (pc := 0) (v := 0) C dX1_endAtRepeats_0 (by decide) ?_
  refine g_istore_n (pc := 1) C [(1, .int 0), (0, .ref (ad X 11))] dX1_endAtRepeats_1 rfl (Nat.le_of_ble_eq_true rfl) rfl ?_
  refine g_weak (lv1 := [(0, .ref (ad X 11)), (1, .int 0)]) [1, 0] rfl ?_
  exact s_X1_endAtRepeats_l2 C  _ (0, S) _ h
theorem c_X1_endAtRepeats (l : Launch) (b : Bw) (S : St) : Ct l b yX1_endAtRepeats wsX1_endAtRepeats rmX1_endAtRepeats [.ref (bad b 11)] S mkV (f_X1_endAtRepeats S) := Ct.of (by decide +kernel) rfl (Nat.le_of_ble_eq_true rfl) (fun X C hl hb r h => by
  subst hl; subst hb
  exact s_X1_endAtRepeats_b0 C S h)
/-! StyleRows.perform()I -/
set_option maxRecDepth 100000 in
set_option maxHeartbeats 4000000 in
theorem s_X11_perform_b0 {X : MC} (C : Cx X cX11_perform RX11 wsX11_perform 2 rmX11_perform (some .int)) (S : St) {r0 : Int32 × St} (h : f_X11_perform_b0 S = some r0) : G X (QM mkI X r0) S 0 [(0, .ref (ad X 0))] [] := by
  unfold f_X11_perform_b0 at h
  refine g_aload_n (pc := 0) C dX11_perform_0 rfl 0 rfl ?_
  refine g_get (pc := 1) C 0 (w_0 _ _) rfl 5 (Nat.le_of_ble_eq_true rfl) in_X11_X11_perform k44_X11_perform rfl dX11_perform_1 ?_
  refine g_aload_n (pc := 4) C dX11_perform_4 rfl 0 rfl ?_
  refine g_get (pc := 5) C 0 (w_0 _ _) rfl 1 (Nat.le_of_ble_eq_true rfl) in_X11_X11_perform k16_X11_perform rfl dX11_perform_5 ?_
  refine g_aload_n (pc := 8) C dX11_perform_8 rfl 0 rfl ?_
  refine g_get (pc := 9) C 0 (w_0 _ _) rfl 3 (Nat.le_of_ble_eq_true rfl) in_X11_X11_perform k30_X11_perform rfl dX11_perform_9 ?_
  refine g_aload_n (pc := 12) C dX11_perform_12 rfl 0 rfl ?_
  refine g_get (pc := 13) C 0 (w_0 _ _) rfl 0 (Nat.le_of_ble_eq_true rfl) in_X11_X11_perform k7_X11_perform rfl dX11_perform_13 ?_
  refine g_callV (pc := 16) C 8 (c_X6_makeParts (Xl X) (Xb X) (gJ S 0) S) gX11_perform_X6_makeParts rfl rfl rfl hd_X6_makeParts ⟨Nat.le_of_ble_eq_true rfl, Nat.le_of_ble_eq_true rfl⟩ (w_8 _ _) rfl rfl rfl (Nat.le_of_ble_eq_true rfl) dX11_perform_16 h (fun r2 S1 h => ?_)
  change G X _ S1 19 [(0, .ref (ad X 0))] [.int r2]
  refine g_if_ne (pc := 19) (tgt := 26) C h dX11_perform_19 (by decide) (fun h => ?_) (fun h => ?_)
  · refine g_aload_n (pc := 26) C dX11_perform_26 rfl 0 rfl ?_
    refine g_get (pc := 27) C 0 (w_0 _ _) rfl 5 (Nat.le_of_ble_eq_true rfl) in_X11_X11_perform k44_X11_perform rfl dX11_perform_27 ?_
    refine g_getN (pc := 30) C 8 (w_8 _ _) rfl 0 (Nat.le_of_ble_eq_true rfl) in_X6_X11_perform nw_X11_159 rfl dX11_perform_30 ?_
    refine g_astore_n (pc := 33) C [(1, .ref (ad X 9)), (0, .ref (ad X 0))] dX11_perform_33 rfl (Nat.le_of_ble_eq_true rfl) rfl ?_
    refine g_aload_n (pc := 34) C dX11_perform_34 rfl 0 rfl ?_
    refine g_aload_n (pc := 35) C dX11_perform_35 rfl 1 rfl ?_
    refine g_get (pc := 36) C 0 (w_0 _ _) rfl 1 (Nat.le_of_ble_eq_true rfl) in_X11_X11_perform k16_X11_perform rfl dX11_perform_36 ?_
    refine g_getN (pc := 39) C 1 (w_1 _ _) rfl 2 (Nat.le_of_ble_eq_true rfl) in_X9_X11_perform nw_X11_104 rfl dX11_perform_39 ?_
    refine g_callV (pc := 42) C 9 (c_X1_bend (Xl X) (Xb X) S1) gX11_perform_X1_bend rfl rfl rfl hd_X1_bend ⟨Nat.le_of_ble_eq_true rfl, Nat.le_of_ble_eq_true rfl⟩ (w_9 _ _) rfl rfl rfl (Nat.le_of_ble_eq_true rfl) dX11_perform_42 h (fun _u3 S3 h => ?_)
    change G X _ S3 45 [(1, .ref (ad X 9)), (0, .ref (ad X 0))] []
    refine g_aload_n (pc := 45) C dX11_perform_45 rfl 1 rfl ?_
    refine g_get (pc := 46) C 0 (w_0 _ _) rfl 6 (Nat.le_of_ble_eq_true rfl) in_X11_X11_perform k51_X11_perform rfl dX11_perform_46 ?_
    refine g_aload_n (pc := 49) C dX11_perform_49 rfl 0 rfl ?_
    refine g_callV (pc := 50) C 10 (c_X5_sort (Xl X) (Xb X) S3) gX11_perform_X5_sort rfl rfl rfl hd_X5_sort ⟨Nat.le_of_ble_eq_true rfl, Nat.le_of_ble_eq_true rfl⟩ (w_10 _ _) rfl rfl rfl (Nat.le_of_ble_eq_true rfl) dX11_perform_50 h (fun _u4 S4 h => ?_)
    change G X _ S4 53 [(1, .ref (ad X 9)), (0, .ref (ad X 0))] []
    refine g_aload_n (pc := 53) C dX11_perform_53 rfl 1 rfl ?_
    refine g_get (pc := 54) C 0 (w_0 _ _) rfl 7 (Nat.le_of_ble_eq_true rfl) in_X11_X11_perform k58_X11_perform rfl dX11_perform_54 ?_
    refine g_aload_n (pc := 57) C dX11_perform_57 rfl 0 rfl ?_
    refine g_aload_n (pc := 58) C dX11_perform_58 rfl 1 rfl ?_
    refine g_get (pc := 59) C 0 (w_0 _ _) rfl 6 (Nat.le_of_ble_eq_true rfl) in_X11_X11_perform k51_X11_perform rfl dX11_perform_59 ?_
    refine g_callV (pc := 62) C 11 (c_X1_takeInOrder (Xl X) (Xb X) S4) gX11_perform_X1_takeInOrder rfl rfl rfl hd_X1_takeInOrder ⟨Nat.le_of_ble_eq_true rfl, Nat.le_of_ble_eq_true rfl⟩ (w_11 _ _) rfl rfl rfl (Nat.le_of_ble_eq_true rfl) dX11_perform_62 h (fun _u5 S5 h => ?_)
    change G X _ S5 65 [(1, .ref (ad X 9)), (0, .ref (ad X 0))] []
    refine g_aload_n (pc := 65) C dX11_perform_65 rfl 1 rfl ?_
    refine g_get (pc := 66) C 0 (w_0 _ _) rfl 7 (Nat.le_of_ble_eq_true rfl) in_X11_X11_perform k58_X11_perform rfl dX11_perform_66 ?_
    refine g_callV (pc := 69) C 11 (c_X1_endAtRepeats (Xl X) (Xb X) S5) gX11_perform_X1_endAtRepeats rfl rfl rfl hd_X1_endAtRepeats ⟨Nat.le_of_ble_eq_true rfl, Nat.le_of_ble_eq_true rfl⟩ (w_11 _ _) rfl rfl rfl (Nat.le_of_ble_eq_true rfl) dX11_perform_69 h (fun _u6 S6 h => ?_)
    change G X _ S6 72 [(1, .ref (ad X 9)), (0, .ref (ad X 0))] []
    refine g_aload_n (pc := 72) C dX11_perform_72 rfl 1 rfl ?_
    refine g_get (pc := 73) C 0 (w_0 _ _) rfl 7 (Nat.le_of_ble_eq_true rfl) in_X11_X11_perform k58_X11_perform rfl dX11_perform_73 ?_
    refine g_getN (pc := 76) C 11 (w_11 _ _) rfl 1 (Nat.le_of_ble_eq_true rfl) in_X1_X11_perform nw_X11_177 rfl dX11_perform_76 ?_
    exact g_iret (pc := 79) C h dX11_perform_79
  · refine g_sipush (pc := 22) (v := (-1004)) C dX11_perform_22 (by decide) ?_
    exact g_iret (pc := 25) C h dX11_perform_25
theorem c_X11_perform (l : Launch) (b : Bw) (S : St) : Ct l b yX11_perform wsX11_perform rmX11_perform [.ref (bad b 0)] S mkI (f_X11_perform S) := Ct.of (by decide +kernel) rfl (Nat.le_of_ble_eq_true rfl) (fun X C hl hb r h => by
  subst hl; subst hb
  exact s_X11_perform_b0 C S h)
/-! StyleRows$Events.has(I)Z -/
set_option maxRecDepth 100000 in
set_option maxHeartbeats 4000000 in
theorem s_X1_has_b0 {X : MC} (C : Cx X cX1_has RX1 wsX1_has 2 rmX1_has (some .boolean)) (a1 : Int32) (S : St) {r0 : Int32 × St} (h : f_X1_has_b0 a1 S = some r0) : G X (QM mkI X r0) S 0 [(0, .ref (ad X 11)), (1, .int a1)] [] := by
  unfold f_X1_has_b0 at h
  refine g_iload_n (pc := 0) C dX1_has_0 rfl 1 rfl ?_
  refine g_iconst (pc := 1) (v := 0) C dX1_has_1 (by decide) ?_
  refine g_aload_n (pc := 2) C dX1_has_2 rfl 0 rfl ?_
  refine g_get (pc := 3) C 11 (w_11 _ _) rfl 1 (Nat.le_of_ble_eq_true rfl) in_X1_X1_has k16_X1_has rfl dX1_has_3 ?_
  refine g_iconst (pc := 6) (v := 1) C dX1_has_6 (by decide) ?_
  refine g_isub (pc := 7) C dX1_has_7 ?_
  refine g_callSN (pc := 8) C (c_X11_isWithin (Xl X) (Xb X) a1 0 ((gI S 21) - 1) S) gX1_has_X11_isWithin_n24 rfl rfl rfl nw_X1_24 kiniX11_X1_has kstX11_isWithin_X1_has hd_X11_isWithin ⟨Nat.le_of_ble_eq_true rfl, Nat.le_of_ble_eq_true rfl⟩ rfl rfl (Nat.le_of_ble_eq_true rfl) dX1_has_8 h (fun r2 S1 h => ?_)
  change G X _ S1 11 [(0, .ref (ad X 11)), (1, .int a1)] [.int r2]
  exact g_zret (pc := 11) C h dX1_has_11
theorem c_X1_has (l : Launch) (b : Bw) (a1 : Int32) (S : St) : Ct l b yX1_has wsX1_has rmX1_has [.ref (bad b 11), .int a1] S mkI (f_X1_has a1 S) := Ct.of (by decide +kernel) rfl (Nat.le_of_ble_eq_true rfl) (fun X C hl hb r h => by
  subst hl; subst hb
  exact s_X1_has_b0 C a1 S h)
/-! StyleRows.event(II)I -/
set_option maxRecDepth 100000 in
set_option maxHeartbeats 4000000 in
theorem s_X11_event_b38 {X : MC} (C : Cx X cX11_event RX11 wsX11_event 3 rmX11_event (some .int)) (w0 : Int32) (S : St) {r0 : Int32 × St} (h : f_X11_event_b38 w0 S = some r0) : G X (QM mkI X r0) S 38 [] [.int w0] := by
  unfold f_X11_event_b38 at h
  exact g_iret (pc := 38) C h dX11_event_38
set_option maxRecDepth 100000 in
set_option maxHeartbeats 4000000 in
theorem s_X11_event_b35 {X : MC} (C : Cx X cX11_event RX11 wsX11_event 3 rmX11_event (some .int)) (S : St) {r0 : Int32 × St} (h : f_X11_event_b35 S = some r0) : G X (QM mkI X r0) S 35 [] [] := by
  unfold f_X11_event_b35 at h
  refine g_sipush (pc := 35) (v := (-1001)) C dX11_event_35 (by decide) ?_
  refine g_weak (lv1 := []) [] rfl ?_
  exact s_X11_event_b38 C (-1001)  S h
set_option maxRecDepth 100000 in
set_option maxHeartbeats 4000000 in
theorem s_X11_event_b0 {X : MC} (C : Cx X cX11_event RX11 wsX11_event 3 rmX11_event (some .int)) (a1 : Int32) (a2 : Int32) (S : St) {r0 : Int32 × St} (h : f_X11_event_b0 a1 a2 S = some r0) : G X (QM mkI X r0) S 0 [(0, .ref (ad X 0)), (1, .int a1), (2, .int a2)] [] := by
  unfold f_X11_event_b0 at h
  refine g_aload_n (pc := 0) C dX11_event_0 rfl 0 rfl ?_
  refine g_get (pc := 1) C 0 (w_0 _ _) rfl 7 (Nat.le_of_ble_eq_true rfl) in_X11_X11_event k58_X11_event rfl dX11_event_1 ?_
  refine g_iload_n (pc := 4) C dX11_event_4 rfl 1 rfl ?_
  refine g_callV (pc := 5) C 11 (c_X1_has (Xl X) (Xb X) a1 S) gX11_event_X1_has rfl rfl rfl hd_X1_has ⟨Nat.le_of_ble_eq_true rfl, Nat.le_of_ble_eq_true rfl⟩ (w_11 _ _) rfl rfl rfl (Nat.le_of_ble_eq_true rfl) dX11_event_5 h (fun r2 S1 h => ?_)
  change G X _ S1 8 [(0, .ref (ad X 0)), (1, .int a1), (2, .int a2)] [.int r2]
  refine g_if_eq (pc := 8) (tgt := 35) C h dX11_event_8 (by decide) (fun h => ?_) (fun h => ?_)
  · refine g_weak (lv1 := []) [] rfl ?_
    exact s_X11_event_b35 C   S1 h
  · refine g_iload_n (pc := 11) C dX11_event_11 rfl 2 rfl ?_
    refine g_iconst (pc := 12) (v := 0) C dX11_event_12 (by decide) ?_
    refine g_bipush (pc := 13) (v := 6) C dX11_event_13 (by decide) ?_
    refine g_callS (pc := 15) C (c_X11_isWithin (Xl X) (Xb X) a2 0 6 S1) gX11_event_X11_isWithin rfl rfl rfl hd_X11_isWithin ⟨Nat.le_of_ble_eq_true rfl, Nat.le_of_ble_eq_true rfl⟩ rfl rfl (Nat.le_of_ble_eq_true rfl) dX11_event_15 h (fun r4 S3 h => ?_)
    change G X _ S3 18 [(0, .ref (ad X 0)), (1, .int a1), (2, .int a2)] [.int r4]
    refine g_if_eq (pc := 18) (tgt := 35) C h dX11_event_18 (by decide) (fun h => ?_) (fun h => ?_)
    · refine g_weak (lv1 := []) [] rfl ?_
      exact s_X11_event_b35 C   S3 h
    · refine g_aload_n (pc := 21) C dX11_event_21 rfl 0 rfl ?_
      refine g_get (pc := 22) C 0 (w_0 _ _) rfl 7 (Nat.le_of_ble_eq_true rfl) in_X11_X11_event k58_X11_event rfl dX11_event_22 ?_
      refine g_getN (pc := 25) C 11 (w_11 _ _) rfl 0 (Nat.le_of_ble_eq_true rfl) in_X1_X11_event nw_X11_182 rfl dX11_event_25 ?_
      refine g_iload_n (pc := 28) C dX11_event_28 rfl 2 rfl ?_
      refine g_aald (pc := 29) C 41 _ (w_41 _ _) rfl h dX11_event_29 (fun hn5 h => ?_)
      refine g_iload_n (pc := 30) C dX11_event_30 rfl 1 rfl ?_
      refine g_iald (pc := 31) C _ (wg_41 _ _ _ hn5) h dX11_event_31 (fun h => ?_)
      refine g_goto (pc := 32) (tgt := 38) C dX11_event_32 (by decide) ?_
      refine g_weak (lv1 := []) [] rfl ?_
      exact s_X11_event_b38 C (rd S3 (42 + Int32.toNatClampNeg a2) a1)  S3 h
theorem c_X11_event (l : Launch) (b : Bw) (a1 : Int32) (a2 : Int32) (S : St) : Ct l b yX11_event wsX11_event rmX11_event [.ref (bad b 0), .int a1, .int a2] S mkI (f_X11_event a1 a2 S) := Ct.of (by decide +kernel) rfl (Nat.le_of_ble_eq_true rfl) (fun X C hl hb r h => by
  subst hl; subst hb
  exact s_X11_event_b0 C a1 a2 S h)
/-! StyleRows$Events.soundingAt(I)I -/
set_option maxRecDepth 100000 in
set_option maxHeartbeats 4000000 in
theorem s_X1_soundingAt_b36 {X : MC} (C : Cx X cX1_soundingAt RX1 wsX1_soundingAt 4 rmX1_soundingAt (some .int)) {rec4 : Int32 × Int32 × St → Option (Int32 × St)} (v1 : Int32) (v2 : Int32) (v3 : Int32) (hrec4 : ∀ (s : Int32 × Int32 × St) (r : Int32 × St), rec4 s = some r → G X (QM mkI X r) s.2.2 4 [(0, .ref (ad X 11)), (1, .int v1), (2, .int (s.1)), (3, .int (s.2.1))] []) (S : St) {r0 : Int32 × St} (h : f_X1_soundingAt_b36 rec4 v1 v2 v3 S = some r0) : G X (QM mkI X r0) S 36 [(0, .ref (ad X 11)), (1, .int v1), (2, .int v2), (3, .int v3)] [] := by
  unfold f_X1_soundingAt_b36 at h
  refine g_iinc (pc := 36) (v := v3 + 1) C [(3, .int (v3 + 1)), (0, .ref (ad X 11)), (1, .int v1), (2, .int v2)] dX1_soundingAt_36 3 rfl rfl (Nat.le_of_ble_eq_true rfl) rfl ?_
  refine g_goto (pc := 39) (tgt := 4) C dX1_soundingAt_39 (by decide) ?_
  refine g_weak (lv1 := [(0, .ref (ad X 11)), (1, .int v1), (2, .int v2), (3, .int (v3 + 1))]) [1, 2, 3, 0] rfl ?_
  exact hrec4 (v2, v3 + 1, S) _ h
set_option maxRecDepth 100000 in
set_option maxHeartbeats 4000000 in
theorem s_X1_soundingAt_b4 {X : MC} (C : Cx X cX1_soundingAt RX1 wsX1_soundingAt 4 rmX1_soundingAt (some .int)) {rec4 : Int32 × Int32 × St → Option (Int32 × St)} (v1 : Int32) (v2 : Int32) (v3 : Int32) (hrec4 : ∀ (s : Int32 × Int32 × St) (r : Int32 × St), rec4 s = some r → G X (QM mkI X r) s.2.2 4 [(0, .ref (ad X 11)), (1, .int v1), (2, .int (s.1)), (3, .int (s.2.1))] []) (S : St) {r0 : Int32 × St} (h : f_X1_soundingAt_b4 rec4 v1 v2 v3 S = some r0) : G X (QM mkI X r0) S 4 [(0, .ref (ad X 11)), (1, .int v1), (2, .int v2), (3, .int v3)] [] := by
  unfold f_X1_soundingAt_b4 at h
  refine g_iload_n (pc := 4) C dX1_soundingAt_4 rfl 3 rfl ?_
  refine g_aload_n (pc := 5) C dX1_soundingAt_5 rfl 0 rfl ?_
  refine g_get (pc := 6) C 11 (w_11 _ _) rfl 1 (Nat.le_of_ble_eq_true rfl) in_X1_X1_soundingAt k16_X1_soundingAt rfl dX1_soundingAt_6 ?_
  refine g_icmp_ge (pc := 9) (tgt := 42) C h dX1_soundingAt_9 (by decide) (fun h => ?_) (fun h => ?_)
  · refine g_iload_n (pc := 42) C dX1_soundingAt_42 rfl 2 rfl ?_
    exact g_iret (pc := 43) C h dX1_soundingAt_43
  · refine g_aload_n (pc := 12) C dX1_soundingAt_12 rfl 0 rfl ?_
    refine g_get (pc := 13) C 11 (w_11 _ _) rfl 0 (Nat.le_of_ble_eq_true rfl) in_X1_X1_soundingAt k13_X1_soundingAt rfl dX1_soundingAt_13 ?_
    refine g_iconst (pc := 16) (v := 0) C dX1_soundingAt_16 (by decide) ?_
    refine g_aaldc (pc := 17) (i := 0) C 41 42 (w_41 _ _) rfl rfl dX1_soundingAt_17 ?_
    refine g_iload_n (pc := 18) C dX1_soundingAt_18 rfl 3 rfl ?_
    refine g_iald (pc := 19) C 42 (w_42 _ _) h dX1_soundingAt_19 (fun h => ?_)
    refine g_iload_n (pc := 20) C dX1_soundingAt_20 rfl 1 rfl ?_
    refine g_icmp_gt (pc := 21) (tgt := 36) C h dX1_soundingAt_21 (by decide) (fun h => ?_) (fun h => ?_)
    · refine g_weak (lv1 := [(0, .ref (ad X 11)), (1, .int v1), (2, .int v2), (3, .int v3)]) [0, 1, 2, 3] rfl ?_
      exact s_X1_soundingAt_b36 C v1 v2 v3 hrec4  S h
    · refine g_aload_n (pc := 24) C dX1_soundingAt_24 rfl 0 rfl ?_
      refine g_iload_n (pc := 25) C dX1_soundingAt_25 rfl 3 rfl ?_
      refine g_callV (pc := 26) C 11 (c_X1_endOf (Xl X) (Xb X) v3 S) gX1_soundingAt_X1_endOf rfl rfl rfl hd_X1_endOf ⟨Nat.le_of_ble_eq_true rfl, Nat.le_of_ble_eq_true rfl⟩ (w_11 _ _) rfl rfl rfl (Nat.le_of_ble_eq_true rfl) dX1_soundingAt_26 h (fun r2 S1 h => ?_)
      change G X _ S1 29 [(0, .ref (ad X 11)), (1, .int v1), (2, .int v2), (3, .int v3)] [.int r2]
      refine g_iload_n (pc := 29) C dX1_soundingAt_29 rfl 1 rfl ?_
      refine g_icmp_le (pc := 30) (tgt := 36) C h dX1_soundingAt_30 (by decide) (fun h => ?_) (fun h => ?_)
      · refine g_weak (lv1 := [(0, .ref (ad X 11)), (1, .int v1), (2, .int v2), (3, .int v3)]) [0, 1, 2, 3] rfl ?_
        exact s_X1_soundingAt_b36 C v1 v2 v3 hrec4  S1 h
      · refine g_iinc (pc := 33) (v := v2 + 1) C [(2, .int (v2 + 1)), (0, .ref (ad X 11)), (1, .int v1), (3, .int v3)] dX1_soundingAt_33 2 rfl rfl (Nat.le_of_ble_eq_true rfl) rfl ?_
        refine g_weak (lv1 := [(0, .ref (ad X 11)), (1, .int v1), (2, .int (v2 + 1)), (3, .int v3)]) [1, 2, 0, 3] rfl ?_
        exact s_X1_soundingAt_b36 C v1 (v2 + 1) v3 hrec4  S1 h
set_option maxRecDepth 100000 in
set_option maxHeartbeats 4000000 in
theorem s_X1_soundingAt_l4 {X : MC} (C : Cx X cX1_soundingAt RX1 wsX1_soundingAt 4 rmX1_soundingAt (some .int)) (v1 : Int32) : ∀ (n : Nat) (s : Int32 × Int32 × St) (r : Int32 × St), f_X1_soundingAt_l4 v1 n s = some r → G X (QM mkI X r) s.2.2 4 [(0, .ref (ad X 11)), (1, .int v1), (2, .int (s.1)), (3, .int (s.2.1))] [] :=
  loop_sound (fun rec4 hrec4 s r h => s_X1_soundingAt_b4 C v1 s.1 s.2.1 hrec4 s.2.2 h)
set_option maxRecDepth 100000 in
set_option maxHeartbeats 4000000 in
theorem s_X1_soundingAt_b0 {X : MC} (C : Cx X cX1_soundingAt RX1 wsX1_soundingAt 4 rmX1_soundingAt (some .int)) (a1 : Int32) (S : St) {r0 : Int32 × St} (h : f_X1_soundingAt_b0 a1 S = some r0) : G X (QM mkI X r0) S 0 [(0, .ref (ad X 11)), (1, .int a1)] [] := by
  unfold f_X1_soundingAt_b0 at h
  refine g_iconst (pc := 0) (v := 0) C dX1_soundingAt_0 (by decide) ?_
  refine g_istore_n (pc := 1) C [(2, .int 0), (0, .ref (ad X 11)), (1, .int a1)] dX1_soundingAt_1 rfl (Nat.le_of_ble_eq_true rfl) rfl ?_
  refine g_iconst (pc := 2) (v := 0) C dX1_soundingAt_2 (by decide) ?_
  refine g_istore_n (pc := 3) C [(3, .int 0), (2, .int 0), (0, .ref (ad X 11)), (1, .int a1)] dX1_soundingAt_3 rfl (Nat.le_of_ble_eq_true rfl) rfl ?_
  refine g_weak (lv1 := [(0, .ref (ad X 11)), (1, .int a1), (2, .int 0), (3, .int 0)]) [2, 3, 1, 0] rfl ?_
  exact s_X1_soundingAt_l4 C a1 _ (0, 0, S) _ h
theorem c_X1_soundingAt (l : Launch) (b : Bw) (a1 : Int32) (S : St) : Ct l b yX1_soundingAt wsX1_soundingAt rmX1_soundingAt [.ref (bad b 11), .int a1] S mkI (f_X1_soundingAt a1 S) := Ct.of (by decide +kernel) rfl (Nat.le_of_ble_eq_true rfl) (fun X C hl hb r h => by
  subst hl; subst hb
  exact s_X1_soundingAt_b0 C a1 S h)
/-! StyleRows.sounding(I)I -/
set_option maxRecDepth 100000 in
set_option maxHeartbeats 4000000 in
theorem s_X11_sounding_b0 {X : MC} (C : Cx X cX11_sounding RX11 wsX11_sounding 2 rmX11_sounding (some .int)) (a1 : Int32) (S : St) {r0 : Int32 × St} (h : f_X11_sounding_b0 a1 S = some r0) : G X (QM mkI X r0) S 0 [(0, .ref (ad X 0)), (1, .int a1)] [] := by
  unfold f_X11_sounding_b0 at h
  refine g_aload_n (pc := 0) C dX11_sounding_0 rfl 0 rfl ?_
  refine g_get (pc := 1) C 0 (w_0 _ _) rfl 7 (Nat.le_of_ble_eq_true rfl) in_X11_X11_sounding k58_X11_sounding rfl dX11_sounding_1 ?_
  refine g_iload_n (pc := 4) C dX11_sounding_4 rfl 1 rfl ?_
  refine g_callV (pc := 5) C 11 (c_X1_soundingAt (Xl X) (Xb X) a1 S) gX11_sounding_X1_soundingAt rfl rfl rfl hd_X1_soundingAt ⟨Nat.le_of_ble_eq_true rfl, Nat.le_of_ble_eq_true rfl⟩ (w_11 _ _) rfl rfl rfl (Nat.le_of_ble_eq_true rfl) dX11_sounding_5 h (fun r2 S1 h => ?_)
  change G X _ S1 8 [(0, .ref (ad X 0)), (1, .int a1)] [.int r2]
  exact g_iret (pc := 8) C h dX11_sounding_8
theorem c_X11_sounding (l : Launch) (b : Bw) (a1 : Int32) (S : St) : Ct l b yX11_sounding wsX11_sounding rmX11_sounding [.ref (bad b 0), .int a1] S mkI (f_X11_sounding a1 S) := Ct.of (by decide +kernel) rfl (Nat.le_of_ble_eq_true rfl) (fun X C hl hb r h => by
  subst hl; subst hb
  exact s_X11_sounding_b0 C a1 S h)
/-! StyleRows$Events.howManyOf(I)I -/
set_option maxRecDepth 100000 in
set_option maxHeartbeats 4000000 in
theorem s_X1_howManyOf_b27 {X : MC} (C : Cx X cX1_howManyOf RX1 wsX1_howManyOf 4 rmX1_howManyOf (some .int)) {rec4 : Int32 × Int32 × St → Option (Int32 × St)} (v1 : Int32) (v2 : Int32) (v3 : Int32) (hrec4 : ∀ (s : Int32 × Int32 × St) (r : Int32 × St), rec4 s = some r → G X (QM mkI X r) s.2.2 4 [(0, .ref (ad X 11)), (1, .int v1), (2, .int (s.1)), (3, .int (s.2.1))] []) (S : St) {r0 : Int32 × St} (h : f_X1_howManyOf_b27 rec4 v1 v2 v3 S = some r0) : G X (QM mkI X r0) S 27 [(0, .ref (ad X 11)), (1, .int v1), (2, .int v2), (3, .int v3)] [] := by
  unfold f_X1_howManyOf_b27 at h
  refine g_iinc (pc := 27) (v := v3 + 1) C [(3, .int (v3 + 1)), (0, .ref (ad X 11)), (1, .int v1), (2, .int v2)] dX1_howManyOf_27 3 rfl rfl (Nat.le_of_ble_eq_true rfl) rfl ?_
  refine g_goto (pc := 30) (tgt := 4) C dX1_howManyOf_30 (by decide) ?_
  refine g_weak (lv1 := [(0, .ref (ad X 11)), (1, .int v1), (2, .int v2), (3, .int (v3 + 1))]) [1, 2, 3, 0] rfl ?_
  exact hrec4 (v2, v3 + 1, S) _ h
set_option maxRecDepth 100000 in
set_option maxHeartbeats 4000000 in
theorem s_X1_howManyOf_b4 {X : MC} (C : Cx X cX1_howManyOf RX1 wsX1_howManyOf 4 rmX1_howManyOf (some .int)) {rec4 : Int32 × Int32 × St → Option (Int32 × St)} (v1 : Int32) (v2 : Int32) (v3 : Int32) (hrec4 : ∀ (s : Int32 × Int32 × St) (r : Int32 × St), rec4 s = some r → G X (QM mkI X r) s.2.2 4 [(0, .ref (ad X 11)), (1, .int v1), (2, .int (s.1)), (3, .int (s.2.1))] []) (S : St) {r0 : Int32 × St} (h : f_X1_howManyOf_b4 rec4 v1 v2 v3 S = some r0) : G X (QM mkI X r0) S 4 [(0, .ref (ad X 11)), (1, .int v1), (2, .int v2), (3, .int v3)] [] := by
  unfold f_X1_howManyOf_b4 at h
  refine g_iload_n (pc := 4) C dX1_howManyOf_4 rfl 3 rfl ?_
  refine g_aload_n (pc := 5) C dX1_howManyOf_5 rfl 0 rfl ?_
  refine g_get (pc := 6) C 11 (w_11 _ _) rfl 1 (Nat.le_of_ble_eq_true rfl) in_X1_X1_howManyOf k16_X1_howManyOf rfl dX1_howManyOf_6 ?_
  refine g_icmp_ge (pc := 9) (tgt := 33) C h dX1_howManyOf_9 (by decide) (fun h => ?_) (fun h => ?_)
  · refine g_iload_n (pc := 33) C dX1_howManyOf_33 rfl 2 rfl ?_
    exact g_iret (pc := 34) C h dX1_howManyOf_34
  · refine g_aload_n (pc := 12) C dX1_howManyOf_12 rfl 0 rfl ?_
    refine g_get (pc := 13) C 11 (w_11 _ _) rfl 0 (Nat.le_of_ble_eq_true rfl) in_X1_X1_howManyOf k13_X1_howManyOf rfl dX1_howManyOf_13 ?_
    refine g_iconst (pc := 16) (v := 4) C dX1_howManyOf_16 (by decide) ?_
    refine g_aaldc (pc := 17) (i := 4) C 41 46 (w_41 _ _) rfl rfl dX1_howManyOf_17 ?_
    refine g_iload_n (pc := 18) C dX1_howManyOf_18 rfl 3 rfl ?_
    refine g_iald (pc := 19) C 46 (w_46 _ _) h dX1_howManyOf_19 (fun h => ?_)
    refine g_iload_n (pc := 20) C dX1_howManyOf_20 rfl 1 rfl ?_
    refine g_icmp_ne (pc := 21) (tgt := 27) C h dX1_howManyOf_21 (by decide) (fun h => ?_) (fun h => ?_)
    · refine g_weak (lv1 := [(0, .ref (ad X 11)), (1, .int v1), (2, .int v2), (3, .int v3)]) [0, 1, 2, 3] rfl ?_
      exact s_X1_howManyOf_b27 C v1 v2 v3 hrec4  S h
    · refine g_iinc (pc := 24) (v := v2 + 1) C [(2, .int (v2 + 1)), (0, .ref (ad X 11)), (1, .int v1), (3, .int v3)] dX1_howManyOf_24 2 rfl rfl (Nat.le_of_ble_eq_true rfl) rfl ?_
      refine g_weak (lv1 := [(0, .ref (ad X 11)), (1, .int v1), (2, .int (v2 + 1)), (3, .int v3)]) [1, 2, 0, 3] rfl ?_
      exact s_X1_howManyOf_b27 C v1 (v2 + 1) v3 hrec4  S h
set_option maxRecDepth 100000 in
set_option maxHeartbeats 4000000 in
theorem s_X1_howManyOf_l4 {X : MC} (C : Cx X cX1_howManyOf RX1 wsX1_howManyOf 4 rmX1_howManyOf (some .int)) (v1 : Int32) : ∀ (n : Nat) (s : Int32 × Int32 × St) (r : Int32 × St), f_X1_howManyOf_l4 v1 n s = some r → G X (QM mkI X r) s.2.2 4 [(0, .ref (ad X 11)), (1, .int v1), (2, .int (s.1)), (3, .int (s.2.1))] [] :=
  loop_sound (fun rec4 hrec4 s r h => s_X1_howManyOf_b4 C v1 s.1 s.2.1 hrec4 s.2.2 h)
set_option maxRecDepth 100000 in
set_option maxHeartbeats 4000000 in
theorem s_X1_howManyOf_b0 {X : MC} (C : Cx X cX1_howManyOf RX1 wsX1_howManyOf 4 rmX1_howManyOf (some .int)) (a1 : Int32) (S : St) {r0 : Int32 × St} (h : f_X1_howManyOf_b0 a1 S = some r0) : G X (QM mkI X r0) S 0 [(0, .ref (ad X 11)), (1, .int a1)] [] := by
  unfold f_X1_howManyOf_b0 at h
  refine g_iconst (pc := 0) (v := 0) C dX1_howManyOf_0 (by decide) ?_
  refine g_istore_n (pc := 1) C [(2, .int 0), (0, .ref (ad X 11)), (1, .int a1)] dX1_howManyOf_1 rfl (Nat.le_of_ble_eq_true rfl) rfl ?_
  refine g_iconst (pc := 2) (v := 0) C dX1_howManyOf_2 (by decide) ?_
  refine g_istore_n (pc := 3) C [(3, .int 0), (2, .int 0), (0, .ref (ad X 11)), (1, .int a1)] dX1_howManyOf_3 rfl (Nat.le_of_ble_eq_true rfl) rfl ?_
  refine g_weak (lv1 := [(0, .ref (ad X 11)), (1, .int a1), (2, .int 0), (3, .int 0)]) [2, 3, 1, 0] rfl ?_
  exact s_X1_howManyOf_l4 C a1 _ (0, 0, S) _ h
theorem c_X1_howManyOf (l : Launch) (b : Bw) (a1 : Int32) (S : St) : Ct l b yX1_howManyOf wsX1_howManyOf rmX1_howManyOf [.ref (bad b 11), .int a1] S mkI (f_X1_howManyOf a1 S) := Ct.of (by decide +kernel) rfl (Nat.le_of_ble_eq_true rfl) (fun X C hl hb r h => by
  subst hl; subst hb
  exact s_X1_howManyOf_b0 C a1 S h)
/-! StyleRows$Events.firstBeginOf(I)I -/
set_option maxRecDepth 100000 in
set_option maxHeartbeats 4000000 in
theorem s_X1_firstBeginOf_b2 {X : MC} (C : Cx X cX1_firstBeginOf RX1 wsX1_firstBeginOf 3 rmX1_firstBeginOf (some .int)) {rec2 : Int32 × St → Option (Int32 × St)} (v1 : Int32) (v2 : Int32) (hrec2 : ∀ (s : Int32 × St) (r : Int32 × St), rec2 s = some r → G X (QM mkI X r) s.2 2 [(0, .ref (ad X 11)), (1, .int v1), (2, .int (s.1))] []) (S : St) {r0 : Int32 × St} (h : f_X1_firstBeginOf_b2 rec2 v1 v2 S = some r0) : G X (QM mkI X r0) S 2 [(0, .ref (ad X 11)), (1, .int v1), (2, .int v2)] [] := by
  unfold f_X1_firstBeginOf_b2 at h
  refine g_iload_n (pc := 2) C dX1_firstBeginOf_2 rfl 2 rfl ?_
  refine g_aload_n (pc := 3) C dX1_firstBeginOf_3 rfl 0 rfl ?_
  refine g_get (pc := 4) C 11 (w_11 _ _) rfl 1 (Nat.le_of_ble_eq_true rfl) in_X1_X1_firstBeginOf k16_X1_firstBeginOf rfl dX1_firstBeginOf_4 ?_
  refine g_icmp_ge (pc := 7) (tgt := 37) C h dX1_firstBeginOf_7 (by decide) (fun h => ?_) (fun h => ?_)
  · refine g_iconst (pc := 37) (v := (-1)) C dX1_firstBeginOf_37 (by decide) ?_
    exact g_iret (pc := 38) C h dX1_firstBeginOf_38
  · refine g_aload_n (pc := 10) C dX1_firstBeginOf_10 rfl 0 rfl ?_
    refine g_get (pc := 11) C 11 (w_11 _ _) rfl 0 (Nat.le_of_ble_eq_true rfl) in_X1_X1_firstBeginOf k13_X1_firstBeginOf rfl dX1_firstBeginOf_11 ?_
    refine g_iconst (pc := 14) (v := 4) C dX1_firstBeginOf_14 (by decide) ?_
    refine g_aaldc (pc := 15) (i := 4) C 41 46 (w_41 _ _) rfl rfl dX1_firstBeginOf_15 ?_
    refine g_iload_n (pc := 16) C dX1_firstBeginOf_16 rfl 2 rfl ?_
    refine g_iald (pc := 17) C 46 (w_46 _ _) h dX1_firstBeginOf_17 (fun h => ?_)
    refine g_iload_n (pc := 18) C dX1_firstBeginOf_18 rfl 1 rfl ?_
    refine g_icmp_ne (pc := 19) (tgt := 31) C h dX1_firstBeginOf_19 (by decide) (fun h => ?_) (fun h => ?_)
    · refine g_iinc (pc := 31) (v := v2 + 1) C [(2, .int (v2 + 1)), (0, .ref (ad X 11)), (1, .int v1)] dX1_firstBeginOf_31 2 rfl rfl (Nat.le_of_ble_eq_true rfl) rfl ?_
      refine g_goto (pc := 34) (tgt := 2) C dX1_firstBeginOf_34 (by decide) ?_
      refine g_weak (lv1 := [(0, .ref (ad X 11)), (1, .int v1), (2, .int (v2 + 1))]) [1, 2, 0] rfl ?_
      exact hrec2 (v2 + 1, S) _ h
    · refine g_aload_n (pc := 22) C dX1_firstBeginOf_22 rfl 0 rfl ?_
      refine g_get (pc := 23) C 11 (w_11 _ _) rfl 0 (Nat.le_of_ble_eq_true rfl) in_X1_X1_firstBeginOf k13_X1_firstBeginOf rfl dX1_firstBeginOf_23 ?_
      refine g_iconst (pc := 26) (v := 0) C dX1_firstBeginOf_26 (by decide) ?_
      refine g_aaldc (pc := 27) (i := 0) C 41 42 (w_41 _ _) rfl rfl dX1_firstBeginOf_27 ?_
      refine g_iload_n (pc := 28) C dX1_firstBeginOf_28 rfl 2 rfl ?_
      refine g_iald (pc := 29) C 42 (w_42 _ _) h dX1_firstBeginOf_29 (fun h => ?_)
      exact g_iret (pc := 30) C h dX1_firstBeginOf_30
set_option maxRecDepth 100000 in
set_option maxHeartbeats 4000000 in
theorem s_X1_firstBeginOf_l2 {X : MC} (C : Cx X cX1_firstBeginOf RX1 wsX1_firstBeginOf 3 rmX1_firstBeginOf (some .int)) (v1 : Int32) : ∀ (n : Nat) (s : Int32 × St) (r : Int32 × St), f_X1_firstBeginOf_l2 v1 n s = some r → G X (QM mkI X r) s.2 2 [(0, .ref (ad X 11)), (1, .int v1), (2, .int (s.1))] [] :=
  loop_sound (fun rec2 hrec2 s r h => s_X1_firstBeginOf_b2 C v1 s.1 hrec2 s.2 h)
set_option maxRecDepth 100000 in
set_option maxHeartbeats 4000000 in
theorem s_X1_firstBeginOf_b0 {X : MC} (C : Cx X cX1_firstBeginOf RX1 wsX1_firstBeginOf 3 rmX1_firstBeginOf (some .int)) (a1 : Int32) (S : St) {r0 : Int32 × St} (h : f_X1_firstBeginOf_b0 a1 S = some r0) : G X (QM mkI X r0) S 0 [(0, .ref (ad X 11)), (1, .int a1)] [] := by
  unfold f_X1_firstBeginOf_b0 at h
  refine g_iconst (pc := 0) (v := 0) C dX1_firstBeginOf_0 (by decide) ?_
  refine g_istore_n (pc := 1) C [(2, .int 0), (0, .ref (ad X 11)), (1, .int a1)] dX1_firstBeginOf_1 rfl (Nat.le_of_ble_eq_true rfl) rfl ?_
  refine g_weak (lv1 := [(0, .ref (ad X 11)), (1, .int a1), (2, .int 0)]) [1, 2, 0] rfl ?_
  exact s_X1_firstBeginOf_l2 C a1 _ (0, S) _ h
theorem c_X1_firstBeginOf (l : Launch) (b : Bw) (a1 : Int32) (S : St) : Ct l b yX1_firstBeginOf wsX1_firstBeginOf rmX1_firstBeginOf [.ref (bad b 11), .int a1] S mkI (f_X1_firstBeginOf a1 S) := Ct.of (by decide +kernel) rfl (Nat.le_of_ble_eq_true rfl) (fun X C hl hb r h => by
  subst hl; subst hb
  exact s_X1_firstBeginOf_b0 C a1 S h)
/-! StyleRows$Events.lastEndOf(I)I -/
set_option maxRecDepth 100000 in
set_option maxHeartbeats 4000000 in
theorem s_X1_lastEndOf_b52 {X : MC} (C : Cx X cX1_lastEndOf RX1 wsX1_lastEndOf 5 rmX1_lastEndOf (some .int)) {rec7 : Int32 × Int32 × Int32 × St → Option (Int32 × St)} (v1 : Int32) (v2 : Int32) (v3 : Int32) (v4 : Int32) (hrec7 : ∀ (s : Int32 × Int32 × Int32 × St) (r : Int32 × St), rec7 s = some r → G X (QM mkI X r) s.2.2.2 7 [(0, .ref (ad X 11)), (1, .int v1), (2, .int (s.1)), (3, .int (s.2.1)), (4, .int (s.2.2.1))] []) (S : St) {r0 : Int32 × St} (h : f_X1_lastEndOf_b52 rec7 v1 v2 v3 v4 S = some r0) : G X (QM mkI X r0) S 52 [(0, .ref (ad X 11)), (1, .int v1), (2, .int v2), (3, .int v3), (4, .int v4)] [] := by
  unfold f_X1_lastEndOf_b52 at h
  refine g_iinc (pc := 52) (v := v4 + 1) C [(4, .int (v4 + 1)), (0, .ref (ad X 11)), (1, .int v1), (2, .int v2), (3, .int v3)] dX1_lastEndOf_52 4 rfl rfl (Nat.le_of_ble_eq_true rfl) rfl ?_
  refine g_goto (pc := 55) (tgt := 7) C dX1_lastEndOf_55 (by decide) ?_
  refine g_weak (lv1 := [(0, .ref (ad X 11)), (1, .int v1), (2, .int v2), (3, .int v3), (4, .int (v4 + 1))]) [1, 2, 3, 4, 0] rfl ?_
  exact hrec7 (v2, v3, v4 + 1, S) _ h
set_option maxRecDepth 100000 in
set_option maxHeartbeats 4000000 in
theorem s_X1_lastEndOf_b43 {X : MC} (C : Cx X cX1_lastEndOf RX1 wsX1_lastEndOf 5 rmX1_lastEndOf (some .int)) {rec7 : Int32 × Int32 × Int32 × St → Option (Int32 × St)} (v1 : Int32) (v4 : Int32) (hrec7 : ∀ (s : Int32 × Int32 × Int32 × St) (r : Int32 × St), rec7 s = some r → G X (QM mkI X r) s.2.2.2 7 [(0, .ref (ad X 11)), (1, .int v1), (2, .int (s.1)), (3, .int (s.2.1)), (4, .int (s.2.2.1))] []) (S : St) {r0 : Int32 × St} (h : f_X1_lastEndOf_b43 rec7 v1 v4 S = some r0) : G X (QM mkI X r0) S 43 [(0, .ref (ad X 11)), (1, .int v1), (4, .int v4)] [] := by
  unfold f_X1_lastEndOf_b43 at h
  refine g_aload_n (pc := 43) C dX1_lastEndOf_43 rfl 0 rfl ?_
  refine g_iload (pc := 44) C dX1_lastEndOf_44 2 rfl ?_
  refine g_callV (pc := 46) C 11 (c_X1_endOf (Xl X) (Xb X) v4 S) gX1_lastEndOf_X1_endOf rfl rfl rfl hd_X1_endOf ⟨Nat.le_of_ble_eq_true rfl, Nat.le_of_ble_eq_true rfl⟩ (w_11 _ _) rfl rfl rfl (Nat.le_of_ble_eq_true rfl) dX1_lastEndOf_46 h (fun r2 S1 h => ?_)
  change G X _ S1 49 [(0, .ref (ad X 11)), (1, .int v1), (4, .int v4)] [.int r2]
  refine g_istore_n (pc := 49) C [(3, .int r2), (0, .ref (ad X 11)), (1, .int v1), (4, .int v4)] dX1_lastEndOf_49 rfl (Nat.le_of_ble_eq_true rfl) rfl ?_
  refine g_iconst (pc := 50) (v := 1) C dX1_lastEndOf_50 (by decide) ?_
  refine g_istore_n (pc := 51) C [(2, .int 1), (3, .int r2), (0, .ref (ad X 11)), (1, .int v1), (4, .int v4)] dX1_lastEndOf_51 rfl (Nat.le_of_ble_eq_true rfl) rfl ?_
  refine g_weak (lv1 := [(0, .ref (ad X 11)), (1, .int v1), (2, .int 1), (3, .int r2), (4, .int v4)]) [2, 3, 0, 1, 4] rfl ?_
  exact s_X1_lastEndOf_b52 C v1 1 r2 v4 hrec7  S1 h
set_option maxRecDepth 100000 in
set_option maxHeartbeats 4000000 in
theorem s_X1_lastEndOf_b7 {X : MC} (C : Cx X cX1_lastEndOf RX1 wsX1_lastEndOf 5 rmX1_lastEndOf (some .int)) {rec7 : Int32 × Int32 × Int32 × St → Option (Int32 × St)} (v1 : Int32) (v2 : Int32) (v3 : Int32) (v4 : Int32) (hrec7 : ∀ (s : Int32 × Int32 × Int32 × St) (r : Int32 × St), rec7 s = some r → G X (QM mkI X r) s.2.2.2 7 [(0, .ref (ad X 11)), (1, .int v1), (2, .int (s.1)), (3, .int (s.2.1)), (4, .int (s.2.2.1))] []) (S : St) {r0 : Int32 × St} (h : f_X1_lastEndOf_b7 rec7 v1 v2 v3 v4 S = some r0) : G X (QM mkI X r0) S 7 [(0, .ref (ad X 11)), (1, .int v1), (2, .int v2), (3, .int v3), (4, .int v4)] [] := by
  unfold f_X1_lastEndOf_b7 at h
  refine g_iload (pc := 7) C dX1_lastEndOf_7 4 rfl ?_
  refine g_aload_n (pc := 9) C dX1_lastEndOf_9 rfl 0 rfl ?_
  refine g_get (pc := 10) C 11 (w_11 _ _) rfl 1 (Nat.le_of_ble_eq_true rfl) in_X1_X1_lastEndOf k16_X1_lastEndOf rfl dX1_lastEndOf_10 ?_
  refine g_icmp_ge (pc := 13) (tgt := 58) C h dX1_lastEndOf_13 (by decide) (fun h => ?_) (fun h => ?_)
  · refine g_iload_n (pc := 58) C dX1_lastEndOf_58 rfl 3 rfl ?_
    exact g_iret (pc := 59) C h dX1_lastEndOf_59
  · refine g_aload_n (pc := 16) C dX1_lastEndOf_16 rfl 0 rfl ?_
    refine g_get (pc := 17) C 11 (w_11 _ _) rfl 0 (Nat.le_of_ble_eq_true rfl) in_X1_X1_lastEndOf k13_X1_lastEndOf rfl dX1_lastEndOf_17 ?_
    refine g_iconst (pc := 20) (v := 4) C dX1_lastEndOf_20 (by decide) ?_
    refine g_aaldc (pc := 21) (i := 4) C 41 46 (w_41 _ _) rfl rfl dX1_lastEndOf_21 ?_
    refine g_iload (pc := 22) C dX1_lastEndOf_22 4 rfl ?_
    refine g_iald (pc := 24) C 46 (w_46 _ _) h dX1_lastEndOf_24 (fun h => ?_)
    refine g_iload_n (pc := 25) C dX1_lastEndOf_25 rfl 1 rfl ?_
    refine g_icmp_ne (pc := 26) (tgt := 52) C h dX1_lastEndOf_26 (by decide) (fun h => ?_) (fun h => ?_)
    · refine g_weak (lv1 := [(0, .ref (ad X 11)), (1, .int v1), (2, .int v2), (3, .int v3), (4, .int v4)]) [0, 1, 2, 3, 4] rfl ?_
      exact s_X1_lastEndOf_b52 C v1 v2 v3 v4 hrec7  S h
    · refine g_iload_n (pc := 29) C dX1_lastEndOf_29 rfl 2 rfl ?_
      refine g_if_eq (pc := 30) (tgt := 43) C h dX1_lastEndOf_30 (by decide) (fun h => ?_) (fun h => ?_)
      · refine g_weak (lv1 := [(0, .ref (ad X 11)), (1, .int v1), (4, .int v4)]) [0, 1, 4] rfl ?_
        exact s_X1_lastEndOf_b43 C v1 v4 hrec7  S h
      · refine g_aload_n (pc := 33) C dX1_lastEndOf_33 rfl 0 rfl ?_
        refine g_iload (pc := 34) C dX1_lastEndOf_34 4 rfl ?_
        refine g_callV (pc := 36) C 11 (c_X1_endOf (Xl X) (Xb X) v4 S) gX1_lastEndOf_X1_endOf rfl rfl rfl hd_X1_endOf ⟨Nat.le_of_ble_eq_true rfl, Nat.le_of_ble_eq_true rfl⟩ (w_11 _ _) rfl rfl rfl (Nat.le_of_ble_eq_true rfl) dX1_lastEndOf_36 h (fun r4 S3 h => ?_)
        change G X _ S3 39 [(0, .ref (ad X 11)), (1, .int v1), (2, .int v2), (3, .int v3), (4, .int v4)] [.int r4]
        refine g_iload_n (pc := 39) C dX1_lastEndOf_39 rfl 3 rfl ?_
        refine g_icmp_le (pc := 40) (tgt := 52) C h dX1_lastEndOf_40 (by decide) (fun h => ?_) (fun h => ?_)
        · refine g_weak (lv1 := [(0, .ref (ad X 11)), (1, .int v1), (2, .int v2), (3, .int v3), (4, .int v4)]) [0, 1, 2, 3, 4] rfl ?_
          exact s_X1_lastEndOf_b52 C v1 v2 v3 v4 hrec7  S3 h
        · refine g_weak (lv1 := [(0, .ref (ad X 11)), (1, .int v1), (4, .int v4)]) [0, 1, 4] rfl ?_
          exact s_X1_lastEndOf_b43 C v1 v4 hrec7  S3 h
set_option maxRecDepth 100000 in
set_option maxHeartbeats 4000000 in
theorem s_X1_lastEndOf_l7 {X : MC} (C : Cx X cX1_lastEndOf RX1 wsX1_lastEndOf 5 rmX1_lastEndOf (some .int)) (v1 : Int32) : ∀ (n : Nat) (s : Int32 × Int32 × Int32 × St) (r : Int32 × St), f_X1_lastEndOf_l7 v1 n s = some r → G X (QM mkI X r) s.2.2.2 7 [(0, .ref (ad X 11)), (1, .int v1), (2, .int (s.1)), (3, .int (s.2.1)), (4, .int (s.2.2.1))] [] :=
  loop_sound (fun rec7 hrec7 s r h => s_X1_lastEndOf_b7 C v1 s.1 s.2.1 s.2.2.1 hrec7 s.2.2.2 h)
set_option maxRecDepth 100000 in
set_option maxHeartbeats 4000000 in
theorem s_X1_lastEndOf_b0 {X : MC} (C : Cx X cX1_lastEndOf RX1 wsX1_lastEndOf 5 rmX1_lastEndOf (some .int)) (a1 : Int32) (S : St) {r0 : Int32 × St} (h : f_X1_lastEndOf_b0 a1 S = some r0) : G X (QM mkI X r0) S 0 [(0, .ref (ad X 11)), (1, .int a1)] [] := by
  unfold f_X1_lastEndOf_b0 at h
  refine g_iconst (pc := 0) (v := 0) C dX1_lastEndOf_0 (by decide) ?_
  refine g_istore_n (pc := 1) C [(2, .int 0), (0, .ref (ad X 11)), (1, .int a1)] dX1_lastEndOf_1 rfl (Nat.le_of_ble_eq_true rfl) rfl ?_
  refine g_iconst (pc := 2) (v := (-1)) C dX1_lastEndOf_2 (by decide) ?_
  refine g_istore_n (pc := 3) C [(3, .int (-1)), (2, .int 0), (0, .ref (ad X 11)), (1, .int a1)] dX1_lastEndOf_3 rfl (Nat.le_of_ble_eq_true rfl) rfl ?_
  refine g_iconst (pc := 4) (v := 0) C dX1_lastEndOf_4 (by decide) ?_
  refine g_istore (pc := 5) C [(4, .int 0), (3, .int (-1)), (2, .int 0), (0, .ref (ad X 11)), (1, .int a1)] dX1_lastEndOf_5 (Nat.le_of_ble_eq_true rfl) rfl ?_
  refine g_weak (lv1 := [(0, .ref (ad X 11)), (1, .int a1), (2, .int 0), (3, .int (-1)), (4, .int 0)]) [3, 4, 2, 1, 0] rfl ?_
  exact s_X1_lastEndOf_l7 C a1 _ (0, (-1), 0, S) _ h
theorem c_X1_lastEndOf (l : Launch) (b : Bw) (a1 : Int32) (S : St) : Ct l b yX1_lastEndOf wsX1_lastEndOf rmX1_lastEndOf [.ref (bad b 11), .int a1] S mkI (f_X1_lastEndOf a1 S) := Ct.of (by decide +kernel) rfl (Nat.le_of_ble_eq_true rfl) (fun X C hl hb r h => by
  subst hl; subst hb
  exact s_X1_lastEndOf_b0 C a1 S h)
/-! StyleRows.span(II)I -/
set_option maxRecDepth 100000 in
set_option maxHeartbeats 4000000 in
theorem s_X11_span_b0 {X : MC} (C : Cx X cX11_span RX11 wsX11_span 3 rmX11_span (some .int)) (a1 : Int32) (a2 : Int32) (S : St) {r0 : Int32 × St} (h : f_X11_span_b0 a1 a2 S = some r0) : G X (QM mkI X r0) S 0 [(0, .ref (ad X 0)), (1, .int a1), (2, .int a2)] [] := by
  unfold f_X11_span_b0 at h
  refine g_aload_n (pc := 0) C dX11_span_0 rfl 0 rfl ?_
  refine g_get (pc := 1) C 0 (w_0 _ _) rfl 1 (Nat.le_of_ble_eq_true rfl) in_X11_X11_span k16_X11_span rfl dX11_span_1 ?_
  refine g_getN (pc := 4) C 1 (w_1 _ _) rfl 0 (Nat.le_of_ble_eq_true rfl) in_X9_X11_span nw_X11_72 rfl dX11_span_4 ?_
  refine g_iload_n (pc := 7) C dX11_span_7 rfl 1 rfl ?_
  refine g_callV (pc := 8) C 2 (c_X4_has (Xl X) (Xb X) a1 S) gX11_span_X4_has rfl rfl rfl hd_X4_has ⟨Nat.le_of_ble_eq_true rfl, Nat.le_of_ble_eq_true rfl⟩ (w_2 _ _) rfl rfl rfl (Nat.le_of_ble_eq_true rfl) dX11_span_8 h (fun r2 S1 h => ?_)
  change G X _ S1 11 [(0, .ref (ad X 0)), (1, .int a1), (2, .int a2)] [.int r2]
  refine g_if_ne (pc := 11) (tgt := 18) C h dX11_span_11 (by decide) (fun h => ?_) (fun h => ?_)
  · refine g_iload_n (pc := 18) C dX11_span_18 rfl 2 rfl ?_
    by_cases hq3 : a2 = 0
    · replace h := ite_t h hq3
      refine g_swIn (pc := 19) (tgt := 44) C 0 hq3 dX11_span_19 (by decide) (by decide) rfl (by decide) ?_
      refine g_aload_n (pc := 44) C dX11_span_44 rfl 0 rfl ?_
      refine g_get (pc := 45) C 0 (w_0 _ _) rfl 7 (Nat.le_of_ble_eq_true rfl) in_X11_X11_span k58_X11_span rfl dX11_span_45 ?_
      refine g_iload_n (pc := 48) C dX11_span_48 rfl 1 rfl ?_
      refine g_callV (pc := 49) C 11 (c_X1_howManyOf (Xl X) (Xb X) a1 S1) gX11_span_X1_howManyOf rfl rfl rfl hd_X1_howManyOf ⟨Nat.le_of_ble_eq_true rfl, Nat.le_of_ble_eq_true rfl⟩ (w_11 _ _) rfl rfl rfl (Nat.le_of_ble_eq_true rfl) dX11_span_49 h (fun r5 S4 h => ?_)
      change G X _ S4 52 [(0, .ref (ad X 0)), (1, .int a1), (2, .int a2)] [.int r5]
      exact g_iret (pc := 52) C h dX11_span_52
    replace h := ite_f h hq3
    by_cases hq6 : a2 = 1
    · replace h := ite_t h hq6
      refine g_swIn (pc := 19) (tgt := 53) C 1 hq6 dX11_span_19 (by decide) (by decide) rfl (by decide) ?_
      refine g_aload_n (pc := 53) C dX11_span_53 rfl 0 rfl ?_
      refine g_get (pc := 54) C 0 (w_0 _ _) rfl 7 (Nat.le_of_ble_eq_true rfl) in_X11_X11_span k58_X11_span rfl dX11_span_54 ?_
      refine g_iload_n (pc := 57) C dX11_span_57 rfl 1 rfl ?_
      refine g_callV (pc := 58) C 11 (c_X1_firstBeginOf (Xl X) (Xb X) a1 S1) gX11_span_X1_firstBeginOf rfl rfl rfl hd_X1_firstBeginOf ⟨Nat.le_of_ble_eq_true rfl, Nat.le_of_ble_eq_true rfl⟩ (w_11 _ _) rfl rfl rfl (Nat.le_of_ble_eq_true rfl) dX11_span_58 h (fun r8 S7 h => ?_)
      change G X _ S7 61 [(0, .ref (ad X 0)), (1, .int a1), (2, .int a2)] [.int r8]
      exact g_iret (pc := 61) C h dX11_span_61
    replace h := ite_f h hq6
    by_cases hq9 : a2 = 2
    · replace h := ite_t h hq9
      refine g_swIn (pc := 19) (tgt := 62) C 2 hq9 dX11_span_19 (by decide) (by decide) rfl (by decide) ?_
      refine g_aload_n (pc := 62) C dX11_span_62 rfl 0 rfl ?_
      refine g_get (pc := 63) C 0 (w_0 _ _) rfl 7 (Nat.le_of_ble_eq_true rfl) in_X11_X11_span k58_X11_span rfl dX11_span_63 ?_
      refine g_iload_n (pc := 66) C dX11_span_66 rfl 1 rfl ?_
      refine g_callV (pc := 67) C 11 (c_X1_lastEndOf (Xl X) (Xb X) a1 S1) gX11_span_X1_lastEndOf rfl rfl rfl hd_X1_lastEndOf ⟨Nat.le_of_ble_eq_true rfl, Nat.le_of_ble_eq_true rfl⟩ (w_11 _ _) rfl rfl rfl (Nat.le_of_ble_eq_true rfl) dX11_span_67 h (fun r11 S10 h => ?_)
      change G X _ S10 70 [(0, .ref (ad X 0)), (1, .int a1), (2, .int a2)] [.int r11]
      exact g_iret (pc := 70) C h dX11_span_70
    replace h := ite_f h hq9
    refine g_swOut (pc := 19) (tgt := 71) C (sw_out_2 hq3 hq6 hq9) dX11_span_19 (by decide) ?_
    refine g_sipush (pc := 71) (v := (-1001)) C dX11_span_71 (by decide) ?_
    exact g_iret (pc := 74) C h dX11_span_74
  · refine g_sipush (pc := 14) (v := (-1001)) C dX11_span_14 (by decide) ?_
    exact g_iret (pc := 17) C h dX11_span_17
theorem c_X11_span (l : Launch) (b : Bw) (a1 : Int32) (a2 : Int32) (S : St) : Ct l b yX11_span wsX11_span rmX11_span [.ref (bad b 0), .int a1, .int a2] S mkI (f_X11_span a1 a2 S) := Ct.of (by decide +kernel) rfl (Nat.le_of_ble_eq_true rfl) (fun X C hl hb r h => by
  subst hl; subst hb
  exact s_X11_span_b0 C a1 a2 S h)
/-! StyleRows.count(I)I -/
set_option maxRecDepth 100000 in
set_option maxHeartbeats 4000000 in
theorem s_X11_count_b0 {X : MC} (C : Cx X cX11_count RX11 wsX11_count 2 rmX11_count (some .int)) (a1 : Int32) (S : St) {r0 : Int32 × St} (h : f_X11_count_b0 a1 S = some r0) : G X (QM mkI X r0) S 0 [(0, .ref (ad X 0)), (1, .int a1)] [] := by
  unfold f_X11_count_b0 at h
  refine g_iload_n (pc := 0) C dX11_count_0 rfl 1 rfl ?_
  by_cases hq1 : a1 = 0
  · replace h := ite_t h hq1
    refine g_swIn (pc := 1) (tgt := 40) C 0 hq1 dX11_count_1 (by decide) (by decide) rfl (by decide) ?_
    refine g_aload_n (pc := 40) C dX11_count_40 rfl 0 rfl ?_
    refine g_get (pc := 41) C 0 (w_0 _ _) rfl 1 (Nat.le_of_ble_eq_true rfl) in_X11_X11_count k16_X11_count rfl dX11_count_41 ?_
    refine g_getN (pc := 44) C 1 (w_1 _ _) rfl 0 (Nat.le_of_ble_eq_true rfl) in_X9_X11_count nw_X11_72 rfl dX11_count_44 ?_
    refine g_getN (pc := 47) C 2 (w_2 _ _) rfl 5 (Nat.le_of_ble_eq_true rfl) in_X4_X11_count nw_X11_195 rfl dX11_count_47 ?_
    exact g_iret (pc := 50) C h dX11_count_50
  replace h := ite_f h hq1
  by_cases hq2 : a1 = 1
  · replace h := ite_t h hq2
    refine g_swIn (pc := 1) (tgt := 51) C 1 hq2 dX11_count_1 (by decide) (by decide) rfl (by decide) ?_
    refine g_aload_n (pc := 51) C dX11_count_51 rfl 0 rfl ?_
    refine g_get (pc := 52) C 0 (w_0 _ _) rfl 1 (Nat.le_of_ble_eq_true rfl) in_X11_X11_count k16_X11_count rfl dX11_count_52 ?_
    refine g_getN (pc := 55) C 1 (w_1 _ _) rfl 1 (Nat.le_of_ble_eq_true rfl) in_X9_X11_count nw_X11_90 rfl dX11_count_55 ?_
    refine g_getN (pc := 58) C 3 (w_3 _ _) rfl 3 (Nat.le_of_ble_eq_true rfl) in_X2_X11_count nw_X11_196 rfl dX11_count_58 ?_
    exact g_iret (pc := 61) C h dX11_count_61
  replace h := ite_f h hq2
  by_cases hq3 : a1 = 2
  · replace h := ite_t h hq3
    refine g_swIn (pc := 1) (tgt := 62) C 2 hq3 dX11_count_1 (by decide) (by decide) rfl (by decide) ?_
    refine g_aload_n (pc := 62) C dX11_count_62 rfl 0 rfl ?_
    refine g_get (pc := 63) C 0 (w_0 _ _) rfl 1 (Nat.le_of_ble_eq_true rfl) in_X11_X11_count k16_X11_count rfl dX11_count_63 ?_
    refine g_getN (pc := 66) C 1 (w_1 _ _) rfl 2 (Nat.le_of_ble_eq_true rfl) in_X9_X11_count nw_X11_104 rfl dX11_count_66 ?_
    refine g_getN (pc := 69) C 4 (w_4 _ _) rfl 3 (Nat.le_of_ble_eq_true rfl) in_X0_X11_count nw_X11_197 rfl dX11_count_69 ?_
    exact g_iret (pc := 72) C h dX11_count_72
  replace h := ite_f h hq3
  by_cases hq4 : a1 = 3
  · replace h := ite_t h hq4
    refine g_swIn (pc := 1) (tgt := 73) C 3 hq4 dX11_count_1 (by decide) (by decide) rfl (by decide) ?_
    refine g_aload_n (pc := 73) C dX11_count_73 rfl 0 rfl ?_
    refine g_get (pc := 74) C 0 (w_0 _ _) rfl 3 (Nat.le_of_ble_eq_true rfl) in_X11_X11_count k30_X11_count rfl dX11_count_74 ?_
    refine g_getN (pc := 77) C 6 (w_6 _ _) rfl 2 (Nat.le_of_ble_eq_true rfl) in_X8_X11_count nw_X11_198 rfl dX11_count_77 ?_
    exact g_iret (pc := 80) C h dX11_count_80
  replace h := ite_f h hq4
  by_cases hq5 : a1 = 4
  · replace h := ite_t h hq5
    refine g_swIn (pc := 1) (tgt := 81) C 4 hq5 dX11_count_1 (by decide) (by decide) rfl (by decide) ?_
    refine g_aload_n (pc := 81) C dX11_count_81 rfl 0 rfl ?_
    refine g_get (pc := 82) C 0 (w_0 _ _) rfl 7 (Nat.le_of_ble_eq_true rfl) in_X11_X11_count k58_X11_count rfl dX11_count_82 ?_
    refine g_getN (pc := 85) C 11 (w_11 _ _) rfl 1 (Nat.le_of_ble_eq_true rfl) in_X1_X11_count nw_X11_177 rfl dX11_count_85 ?_
    exact g_iret (pc := 88) C h dX11_count_88
  replace h := ite_f h hq5
  by_cases hq6 : a1 = 5
  · replace h := ite_t h hq6
    refine g_swIn (pc := 1) (tgt := 89) C 5 hq6 dX11_count_1 (by decide) (by decide) rfl (by decide) ?_
    refine g_aload_n (pc := 89) C dX11_count_89 rfl 0 rfl ?_
    refine g_get (pc := 90) C 0 (w_0 _ _) rfl 2 (Nat.le_of_ble_eq_true rfl) in_X11_X11_count k23_X11_count rfl dX11_count_90 ?_
    refine g_getN (pc := 93) C 5 (w_5 _ _) rfl 1 (Nat.le_of_ble_eq_true rfl) in_X10_X11_count nw_X11_199 rfl dX11_count_93 ?_
    exact g_iret (pc := 96) C h dX11_count_96
  replace h := ite_f h hq6
  refine g_swOut (pc := 1) (tgt := 97) C (sw_out_5 hq1 hq2 hq3 hq4 hq5 hq6) dX11_count_1 (by decide) ?_
  refine g_sipush (pc := 97) (v := (-1001)) C dX11_count_97 (by decide) ?_
  exact g_iret (pc := 100) C h dX11_count_100
theorem c_X11_count (l : Launch) (b : Bw) (a1 : Int32) (S : St) : Ct l b yX11_count wsX11_count rmX11_count [.ref (bad b 0), .int a1] S mkI (f_X11_count a1 S) := Ct.of (by decide +kernel) rfl (Nat.le_of_ble_eq_true rfl) (fun X C hl hb r h => by
  subst hl; subst hb
  exact s_X11_count_b0 C a1 S h)
