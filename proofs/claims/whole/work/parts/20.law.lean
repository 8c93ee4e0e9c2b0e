set_option maxRecDepth 100000 in
set_option maxHeartbeats 8000000 in
theorem s_L_law_b722 {X : MC} {Q : State → Prop} (C : Cx X cL_law RL lw_tbl 4 room_1 ret) {sb L : Nat} {xs : Nat → Int32} (hc : Scr X sb L xs) (hret : ∀ (S : St) (pc : Nat) (lv : List (Nat × Value)), decode cL_law pc = .ok (.ireturn, 1) → G X Q S pc lv [.int 1]) {rec30 : Int32 × St → Option (Int32 × St)} (v3 : Int32) (hrec30 : ∀ (s : Int32 × St) (r : Int32 × St), rec30 s = some r → r.1 = 1 → G X Q s.2 30 [(0, .ref sb), (1, .ref (ad X 0)), (2, .ref (ad X 12)), (3, .int (s.1))] []) (S : St) {r0 : Int32 × St} (h : f_L_law_b722 L xs rec30 v3 S = some r0) : r0.1 = 1 → G X Q S 722 [(0, .ref sb), (1, .ref (ad X 0)), (2, .ref (ad X 12)), (3, .int v3)] [] := by
  unfold f_L_law_b722 at h
  intro h1
  refine g_iinc (pc := 722) (v := v3 + 6) C [(3, .int (v3 + 6)), (0, .ref sb), (1, .ref (ad X 0)), (2, .ref (ad X 12))] dL_law_722 3 rfl rfl (Nat.le_of_ble_eq_true rfl) rfl ?_
  refine g_goto (pc := 725) (tgt := 30) C dL_law_725 (by decide) ?_
  refine g_weak (lv1 := [(0, .ref sb), (1, .ref (ad X 0)), (2, .ref (ad X 12)), (3, .int (v3 + 6))]) [1, 2, 3, 0] rfl ?_
  exact hrec30 (v3 + 6, S) _ h h1
set_option maxRecDepth 100000 in
set_option maxHeartbeats 8000000 in
theorem s_L_law_b279 {X : MC} {Q : State → Prop} (C : Cx X cL_law RL lw_tbl 4 room_1 ret) {sb L : Nat} {xs : Nat → Int32} (hc : Scr X sb L xs) (hret : ∀ (S : St) (pc : Nat) (lv : List (Nat × Value)), decode cL_law pc = .ok (.ireturn, 1) → G X Q S pc lv [.int 1]) {rec30 : Int32 × St → Option (Int32 × St)} (v3 : Int32) (w0 : Int32) (w2 : Int32) (w3 : Int32) (w4 : Int32) (hrec30 : ∀ (s : Int32 × St) (r : Int32 × St), rec30 s = some r → r.1 = 1 → G X Q s.2 30 [(0, .ref sb), (1, .ref (ad X 0)), (2, .ref (ad X 12)), (3, .int (s.1))] []) (S : St) {r0 : Int32 × St} (h : f_L_law_b279 L xs rec30 v3 w0 w2 w3 w4 S = some r0) : r0.1 = 1 → G X Q S 279 [(0, .ref sb), (1, .ref (ad X 0)), (2, .ref (ad X 12)), (3, .int v3)] [.int w4, .int w3, .int w2, .ref (ad X 12), .int w0] := by
  unfold f_L_law_b279 at h
  intro h1
  refine g_callV (pc := 279) C 12 (c_X12_level (Xl X) (Xb X) w2 w3 w4 S) (goodIn_mono wsL_law_in gL_law_X12_level) rfl rfl rfl hd_X12_level ⟨Nat.le_of_ble_eq_true rfl, Nat.le_of_ble_eq_true rfl⟩ (w_12 _ _) rfl rfl rfl (Nat.le_of_ble_eq_true rfl) dL_law_279 h (fun r15 S14 h => ?_)
  change G X _ S14 282 [(0, .ref sb), (1, .ref (ad X 0)), (2, .ref (ad X 12)), (3, .int v3)] [.int r15, .int w0]
  refine g_icmp_eq (pc := 282) (tgt := 722) C h dL_law_282 (by decide) (fun h => ?_) (fun h => ?_)
  · refine g_weak (lv1 := [(0, .ref sb), (1, .ref (ad X 0)), (2, .ref (ad X 12)), (3, .int v3)]) [0, 1, 2, 3] rfl ?_
    exact s_L_law_b722 C hc hret v3 hrec30  S14 h h1
  · refine g_iconst (pc := 285) (v := 0) C dL_law_285 (by decide) ?_
    cases h
    cases h1
set_option maxRecDepth 100000 in
set_option maxHeartbeats 8000000 in
theorem s_L_law_b252 {X : MC} {Q : State → Prop} (C : Cx X cL_law RL lw_tbl 4 room_1 ret) {sb L : Nat} {xs : Nat → Int32} (hc : Scr X sb L xs) (hret : ∀ (S : St) (pc : Nat) (lv : List (Nat × Value)), decode cL_law pc = .ok (.ireturn, 1) → G X Q S pc lv [.int 1]) {rec30 : Int32 × St → Option (Int32 × St)} (v3 : Int32) (w1 : Int32) (w2 : Int32) (w3 : Int32) (hrec30 : ∀ (s : Int32 × St) (r : Int32 × St), rec30 s = some r → r.1 = 1 → G X Q s.2 30 [(0, .ref sb), (1, .ref (ad X 0)), (2, .ref (ad X 12)), (3, .int (s.1))] []) (S : St) {r0 : Int32 × St} (h : f_L_law_b252 L xs rec30 v3 w1 w2 w3 S = some r0) : r0.1 = 1 → G X Q S 252 [(0, .ref sb), (1, .ref (ad X 0)), (2, .ref (ad X 12)), (3, .int v3)] [.int w3, .int w2, .int w1, .ref (ad X 0)] := by
  unfold f_L_law_b252 at h
  intro h1
  refine g_callV (pc := 252) C 0 (c_X11_level (Xl X) (Xb X) w1 w2 w3 S) (goodIn_mono wsL_law_in gL_law_X11_level) rfl rfl rfl hd_X11_level ⟨Nat.le_of_ble_eq_true rfl, Nat.le_of_ble_eq_true rfl⟩ (w_0 _ _) rfl rfl rfl (Nat.le_of_ble_eq_true rfl) dL_law_252 h (fun r13 S12 h => ?_)
  change G X _ S12 255 [(0, .ref sb), (1, .ref (ad X 0)), (2, .ref (ad X 12)), (3, .int v3)] [.int r13]
  refine g_aload_n (pc := 255) C dL_law_255 rfl 2 rfl ?_
  refine g_aload_n (pc := 256) C dL_law_256 rfl 0 rfl ?_
  refine g_iload_n (pc := 257) C dL_law_257 rfl 3 rfl ?_
  refine g_iconst (pc := 258) (v := 1) C dL_law_258 (by decide) ?_
  refine g_iadd (pc := 259) C dL_law_259 ?_
  refine g_sld (pc := 260) C hc h dL_law_260 (fun h => ?_)
  refine g_aload_n (pc := 261) C dL_law_261 rfl 0 rfl ?_
  refine g_iload_n (pc := 262) C dL_law_262 rfl 3 rfl ?_
  refine g_iconst (pc := 263) (v := 2) C dL_law_263 (by decide) ?_
  refine g_iadd (pc := 264) C dL_law_264 ?_
  refine g_sld (pc := 265) C hc h dL_law_265 (fun h => ?_)
  refine g_aload_n (pc := 266) C dL_law_266 rfl 0 rfl ?_
  refine g_iload_n (pc := 267) C dL_law_267 rfl 3 rfl ?_
  refine g_iconst (pc := 268) (v := 3) C dL_law_268 (by decide) ?_
  refine g_iadd (pc := 269) C dL_law_269 ?_
  refine g_sld (pc := 270) C hc h dL_law_270 (fun h => ?_)
  refine g_if_eq (pc := 271) (tgt := 278) C h dL_law_271 (by decide) (fun h => ?_) (fun h => ?_)
  · refine g_iconst (pc := 278) (v := 0) C dL_law_278 (by decide) ?_
    refine g_weak (lv1 := [(0, .ref sb), (1, .ref (ad X 0)), (2, .ref (ad X 12)), (3, .int v3)]) [0, 1, 2, 3] rfl ?_
    exact s_L_law_b279 C hc hret v3 r13 (xs (Int32.toNatClampNeg (v3 + 1))) (xs (Int32.toNatClampNeg (v3 + 2))) 0 hrec30  S12 h h1
  · refine g_iconst (pc := 274) (v := 1) C dL_law_274 (by decide) ?_
    refine g_goto (pc := 275) (tgt := 279) C dL_law_275 (by decide) ?_
    refine g_weak (lv1 := [(0, .ref sb), (1, .ref (ad X 0)), (2, .ref (ad X 12)), (3, .int v3)]) [0, 1, 2, 3] rfl ?_
    exact s_L_law_b279 C hc hret v3 r13 (xs (Int32.toNatClampNeg (v3 + 1))) (xs (Int32.toNatClampNeg (v3 + 2))) 1 hrec30  S12 h h1
set_option maxRecDepth 100000 in
set_option maxHeartbeats 8000000 in
theorem s_L_law_b30 {X : MC} {Q : State → Prop} (C : Cx X cL_law RL lw_tbl 4 room_1 ret) {sb L : Nat} {xs : Nat → Int32} (hc : Scr X sb L xs) (hret : ∀ (S : St) (pc : Nat) (lv : List (Nat × Value)), decode cL_law pc = .ok (.ireturn, 1) → G X Q S pc lv [.int 1]) {rec30 : Int32 × St → Option (Int32 × St)} (v3 : Int32) (hrec30 : ∀ (s : Int32 × St) (r : Int32 × St), rec30 s = some r → r.1 = 1 → G X Q s.2 30 [(0, .ref sb), (1, .ref (ad X 0)), (2, .ref (ad X 12)), (3, .int (s.1))] []) (S : St) {r0 : Int32 × St} (h : f_L_law_b30 L xs rec30 v3 S = some r0) : r0.1 = 1 → G X Q S 30 [(0, .ref sb), (1, .ref (ad X 0)), (2, .ref (ad X 12)), (3, .int v3)] [] := by
  unfold f_L_law_b30 at h
  intro h1
  refine g_iload_n (pc := 30) C dL_law_30 rfl 3 rfl ?_
  refine g_aload_n (pc := 31) C dL_law_31 rfl 0 rfl ?_
  refine g_slen (pc := 32) C hc dL_law_32 ?_
  refine g_bipush (pc := 33) (v := 6) C dL_law_33 (by decide) ?_
  refine g_isub (pc := 35) C dL_law_35 ?_
  refine g_icmp_gt (pc := 36) (tgt := 728) C h dL_law_36 (by decide) (fun h => ?_) (fun h => ?_)
  · refine g_iconst (pc := 728) (v := 1) C dL_law_728 (by decide) ?_
    cases h
    exact hret _ _ _ dL_law_729
  · refine g_aload_n (pc := 39) C dL_law_39 rfl 0 rfl ?_
    refine g_iload_n (pc := 40) C dL_law_40 rfl 3 rfl ?_
    refine g_sld (pc := 41) C hc h dL_law_41 (fun h => ?_)
    refine g_bipush (pc := 42) (v := 31) C dL_law_42 (by decide) ?_
    refine g_iand (pc := 44) C dL_law_44 ?_
    by_cases hq1 : ((xs (Int32.toNatClampNeg v3)) &&& 31) = 0
    · replace h := ite_t h hq1
      refine g_swIn (pc := 45) (tgt := 132) C 0 hq1 dL_law_45 (by decide) (by decide) rfl (by decide) ?_
      refine g_aload_n (pc := 132) C dL_law_132 rfl 1 rfl ?_
      refine g_aload_n (pc := 133) C dL_law_133 rfl 0 rfl ?_
      refine g_iload_n (pc := 134) C dL_law_134 rfl 3 rfl ?_
      refine g_iconst (pc := 135) (v := 1) C dL_law_135 (by decide) ?_
      refine g_iadd (pc := 136) C dL_law_136 ?_
      refine g_sld (pc := 137) C hc h dL_law_137 (fun h => ?_)
      refine g_aload_n (pc := 138) C dL_law_138 rfl 0 rfl ?_
      refine g_iload_n (pc := 139) C dL_law_139 rfl 3 rfl ?_
      refine g_iconst (pc := 140) (v := 2) C dL_law_140 (by decide) ?_
      refine g_iadd (pc := 141) C dL_law_141 ?_
      refine g_sld (pc := 142) C hc h dL_law_142 (fun h => ?_)
      refine g_aload_n (pc := 143) C dL_law_143 rfl 0 rfl ?_
      refine g_iload_n (pc := 144) C dL_law_144 rfl 3 rfl ?_
      refine g_iconst (pc := 145) (v := 3) C dL_law_145 (by decide) ?_
      refine g_iadd (pc := 146) C dL_law_146 ?_
      refine g_sld (pc := 147) C hc h dL_law_147 (fun h => ?_)
      refine g_aload_n (pc := 148) C dL_law_148 rfl 0 rfl ?_
      refine g_iload_n (pc := 149) C dL_law_149 rfl 3 rfl ?_
      refine g_iconst (pc := 150) (v := 4) C dL_law_150 (by decide) ?_
      refine g_iadd (pc := 151) C dL_law_151 ?_
      refine g_sld (pc := 152) C hc h dL_law_152 (fun h => ?_)
      refine g_aload_n (pc := 153) C dL_law_153 rfl 0 rfl ?_
      refine g_iload_n (pc := 154) C dL_law_154 rfl 3 rfl ?_
      refine g_iconst (pc := 155) (v := 5) C dL_law_155 (by decide) ?_
      refine g_iadd (pc := 156) C dL_law_156 ?_
      refine g_sld (pc := 157) C hc h dL_law_157 (fun h => ?_)
      refine g_callV (pc := 158) C 0 (c_X11_note (Xl X) (Xb X) (xs (Int32.toNatClampNeg (v3 + 1))) (xs (Int32.toNatClampNeg (v3 + 2))) (xs (Int32.toNatClampNeg (v3 + 3))) (xs (Int32.toNatClampNeg (v3 + 4))) (xs (Int32.toNatClampNeg (v3 + 5))) S) (goodIn_mono wsL_law_in gL_law_X11_note) rfl rfl rfl hd_X11_note ⟨Nat.le_of_ble_eq_true rfl, Nat.le_of_ble_eq_true rfl⟩ (w_0 _ _) rfl rfl rfl (Nat.le_of_ble_eq_true rfl) dL_law_158 h (fun r3 S2 h => ?_)
      change G X _ S2 161 [(0, .ref sb), (1, .ref (ad X 0)), (2, .ref (ad X 12)), (3, .int v3)] [.int r3]
      refine g_aload_n (pc := 161) C dL_law_161 rfl 2 rfl ?_
      refine g_aload_n (pc := 162) C dL_law_162 rfl 0 rfl ?_
      refine g_iload_n (pc := 163) C dL_law_163 rfl 3 rfl ?_
      refine g_iconst (pc := 164) (v := 1) C dL_law_164 (by decide) ?_
      refine g_iadd (pc := 165) C dL_law_165 ?_
      refine g_sld (pc := 166) C hc h dL_law_166 (fun h => ?_)
      refine g_aload_n (pc := 167) C dL_law_167 rfl 0 rfl ?_
      refine g_iload_n (pc := 168) C dL_law_168 rfl 3 rfl ?_
      refine g_iconst (pc := 169) (v := 2) C dL_law_169 (by decide) ?_
      refine g_iadd (pc := 170) C dL_law_170 ?_
      refine g_sld (pc := 171) C hc h dL_law_171 (fun h => ?_)
      refine g_aload_n (pc := 172) C dL_law_172 rfl 0 rfl ?_
      refine g_iload_n (pc := 173) C dL_law_173 rfl 3 rfl ?_
      refine g_iconst (pc := 174) (v := 3) C dL_law_174 (by decide) ?_
      refine g_iadd (pc := 175) C dL_law_175 ?_
      refine g_sld (pc := 176) C hc h dL_law_176 (fun h => ?_)
      refine g_aload_n (pc := 177) C dL_law_177 rfl 0 rfl ?_
      refine g_iload_n (pc := 178) C dL_law_178 rfl 3 rfl ?_
      refine g_iconst (pc := 179) (v := 4) C dL_law_179 (by decide) ?_
      refine g_iadd (pc := 180) C dL_law_180 ?_
      refine g_sld (pc := 181) C hc h dL_law_181 (fun h => ?_)
      refine g_aload_n (pc := 182) C dL_law_182 rfl 0 rfl ?_
      refine g_iload_n (pc := 183) C dL_law_183 rfl 3 rfl ?_
      refine g_iconst (pc := 184) (v := 5) C dL_law_184 (by decide) ?_
      refine g_iadd (pc := 185) C dL_law_185 ?_
      refine g_sld (pc := 186) C hc h dL_law_186 (fun h => ?_)
      refine g_callV (pc := 187) C 12 (c_X12_note (Xl X) (Xb X) (xs (Int32.toNatClampNeg (v3 + 1))) (xs (Int32.toNatClampNeg (v3 + 2))) (xs (Int32.toNatClampNeg (v3 + 3))) (xs (Int32.toNatClampNeg (v3 + 4))) (xs (Int32.toNatClampNeg (v3 + 5))) S2) (goodIn_mono wsL_law_in gL_law_X12_note) rfl rfl rfl hd_X12_note ⟨Nat.le_of_ble_eq_true rfl, Nat.le_of_ble_eq_true rfl⟩ (w_12 _ _) rfl rfl rfl (Nat.le_of_ble_eq_true rfl) dL_law_187 h (fun r5 S4 h => ?_)
      change G X _ S4 190 [(0, .ref sb), (1, .ref (ad X 0)), (2, .ref (ad X 12)), (3, .int v3)] [.int r5, .int r3]
      refine g_icmp_eq (pc := 190) (tgt := 722) C h dL_law_190 (by decide) (fun h => ?_) (fun h => ?_)
      · refine g_weak (lv1 := [(0, .ref sb), (1, .ref (ad X 0)), (2, .ref (ad X 12)), (3, .int v3)]) [0, 1, 2, 3] rfl ?_
        exact s_L_law_b722 C hc hret v3 hrec30  S4 h h1
      · refine g_iconst (pc := 193) (v := 0) C dL_law_193 (by decide) ?_
        cases h
        cases h1
    replace h := ite_f h hq1
    by_cases hq6 : ((xs (Int32.toNatClampNeg v3)) &&& 31) = 1
    · replace h := ite_t h hq6
      refine g_swIn (pc := 45) (tgt := 195) C 1 hq6 dL_law_45 (by decide) (by decide) rfl (by decide) ?_
      refine g_aload_n (pc := 195) C dL_law_195 rfl 1 rfl ?_
      refine g_aload_n (pc := 196) C dL_law_196 rfl 0 rfl ?_
      refine g_iload_n (pc := 197) C dL_law_197 rfl 3 rfl ?_
      refine g_iconst (pc := 198) (v := 1) C dL_law_198 (by decide) ?_
      refine g_iadd (pc := 199) C dL_law_199 ?_
      refine g_sld (pc := 200) C hc h dL_law_200 (fun h => ?_)
      refine g_aload_n (pc := 201) C dL_law_201 rfl 0 rfl ?_
      refine g_iload_n (pc := 202) C dL_law_202 rfl 3 rfl ?_
      refine g_iconst (pc := 203) (v := 2) C dL_law_203 (by decide) ?_
      refine g_iadd (pc := 204) C dL_law_204 ?_
      refine g_sld (pc := 205) C hc h dL_law_205 (fun h => ?_)
      refine g_callV (pc := 206) C 0 (c_X11_mark (Xl X) (Xb X) (xs (Int32.toNatClampNeg (v3 + 1))) (xs (Int32.toNatClampNeg (v3 + 2))) S) (goodIn_mono wsL_law_in gL_law_X11_mark) rfl rfl rfl hd_X11_mark ⟨Nat.le_of_ble_eq_true rfl, Nat.le_of_ble_eq_true rfl⟩ (w_0 _ _) rfl rfl rfl (Nat.le_of_ble_eq_true rfl) dL_law_206 h (fun r8 S7 h => ?_)
      change G X _ S7 209 [(0, .ref sb), (1, .ref (ad X 0)), (2, .ref (ad X 12)), (3, .int v3)] [.int r8]
      refine g_aload_n (pc := 209) C dL_law_209 rfl 2 rfl ?_
      refine g_aload_n (pc := 210) C dL_law_210 rfl 0 rfl ?_
      refine g_iload_n (pc := 211) C dL_law_211 rfl 3 rfl ?_
      refine g_iconst (pc := 212) (v := 1) C dL_law_212 (by decide) ?_
      refine g_iadd (pc := 213) C dL_law_213 ?_
      refine g_sld (pc := 214) C hc h dL_law_214 (fun h => ?_)
      refine g_aload_n (pc := 215) C dL_law_215 rfl 0 rfl ?_
      refine g_iload_n (pc := 216) C dL_law_216 rfl 3 rfl ?_
      refine g_iconst (pc := 217) (v := 2) C dL_law_217 (by decide) ?_
      refine g_iadd (pc := 218) C dL_law_218 ?_
      refine g_sld (pc := 219) C hc h dL_law_219 (fun h => ?_)
      refine g_callV (pc := 220) C 12 (c_X12_mark (Xl X) (Xb X) (xs (Int32.toNatClampNeg (v3 + 1))) (xs (Int32.toNatClampNeg (v3 + 2))) S7) (goodIn_mono wsL_law_in gL_law_X12_mark) rfl rfl rfl hd_X12_mark ⟨Nat.le_of_ble_eq_true rfl, Nat.le_of_ble_eq_true rfl⟩ (w_12 _ _) rfl rfl rfl (Nat.le_of_ble_eq_true rfl) dL_law_220 h (fun r10 S9 h => ?_)
      change G X _ S9 223 [(0, .ref sb), (1, .ref (ad X 0)), (2, .ref (ad X 12)), (3, .int v3)] [.int r10, .int r8]
      refine g_icmp_eq (pc := 223) (tgt := 722) C h dL_law_223 (by decide) (fun h => ?_) (fun h => ?_)
      · refine g_weak (lv1 := [(0, .ref sb), (1, .ref (ad X 0)), (2, .ref (ad X 12)), (3, .int v3)]) [0, 1, 2, 3] rfl ?_
        exact s_L_law_b722 C hc hret v3 hrec30  S9 h h1
      · refine g_iconst (pc := 226) (v := 0) C dL_law_226 (by decide) ?_
        cases h
        cases h1
    replace h := ite_f h hq6
    by_cases hq11 : ((xs (Int32.toNatClampNeg v3)) &&& 31) = 2
    · replace h := ite_t h hq11
      refine g_swIn (pc := 45) (tgt := 228) C 2 hq11 dL_law_45 (by decide) (by decide) rfl (by decide) ?_
      refine g_aload_n (pc := 228) C dL_law_228 rfl 1 rfl ?_
      refine g_aload_n (pc := 229) C dL_law_229 rfl 0 rfl ?_
      refine g_iload_n (pc := 230) C dL_law_230 rfl 3 rfl ?_
      refine g_iconst (pc := 231) (v := 1) C dL_law_231 (by decide) ?_
      refine g_iadd (pc := 232) C dL_law_232 ?_
      refine g_sld (pc := 233) C hc h dL_law_233 (fun h => ?_)
      refine g_aload_n (pc := 234) C dL_law_234 rfl 0 rfl ?_
      refine g_iload_n (pc := 235) C dL_law_235 rfl 3 rfl ?_
      refine g_iconst (pc := 236) (v := 2) C dL_law_236 (by decide) ?_
      refine g_iadd (pc := 237) C dL_law_237 ?_
      refine g_sld (pc := 238) C hc h dL_law_238 (fun h => ?_)
      refine g_aload_n (pc := 239) C dL_law_239 rfl 0 rfl ?_
      refine g_iload_n (pc := 240) C dL_law_240 rfl 3 rfl ?_
      refine g_iconst (pc := 241) (v := 3) C dL_law_241 (by decide) ?_
      refine g_iadd (pc := 242) C dL_law_242 ?_
      refine g_sld (pc := 243) C hc h dL_law_243 (fun h => ?_)
      refine g_if_eq (pc := 244) (tgt := 251) C h dL_law_244 (by decide) (fun h => ?_) (fun h => ?_)
      · refine g_iconst (pc := 251) (v := 0) C dL_law_251 (by decide) ?_
        refine g_weak (lv1 := [(0, .ref sb), (1, .ref (ad X 0)), (2, .ref (ad X 12)), (3, .int v3)]) [0, 1, 2, 3] rfl ?_
        exact s_L_law_b252 C hc hret v3 (xs (Int32.toNatClampNeg (v3 + 1))) (xs (Int32.toNatClampNeg (v3 + 2))) 0 hrec30  S h h1
      · refine g_iconst (pc := 247) (v := 1) C dL_law_247 (by decide) ?_
        refine g_goto (pc := 248) (tgt := 252) C dL_law_248 (by decide) ?_
        refine g_weak (lv1 := [(0, .ref sb), (1, .ref (ad X 0)), (2, .ref (ad X 12)), (3, .int v3)]) [0, 1, 2, 3] rfl ?_
        exact s_L_law_b252 C hc hret v3 (xs (Int32.toNatClampNeg (v3 + 1))) (xs (Int32.toNatClampNeg (v3 + 2))) 1 hrec30  S h h1
    replace h := ite_f h hq11
    by_cases hq16 : ((xs (Int32.toNatClampNeg v3)) &&& 31) = 3
    · replace h := ite_t h hq16
      refine g_swIn (pc := 45) (tgt := 287) C 3 hq16 dL_law_45 (by decide) (by decide) rfl (by decide) ?_
      refine g_aload_n (pc := 287) C dL_law_287 rfl 1 rfl ?_
      refine g_aload_n (pc := 288) C dL_law_288 rfl 0 rfl ?_
      refine g_iload_n (pc := 289) C dL_law_289 rfl 3 rfl ?_
      refine g_iconst (pc := 290) (v := 1) C dL_law_290 (by decide) ?_
      refine g_iadd (pc := 291) C dL_law_291 ?_
      refine g_sld (pc := 292) C hc h dL_law_292 (fun h => ?_)
      refine g_aload_n (pc := 293) C dL_law_293 rfl 0 rfl ?_
      refine g_iload_n (pc := 294) C dL_law_294 rfl 3 rfl ?_
      refine g_iconst (pc := 295) (v := 2) C dL_law_295 (by decide) ?_
      refine g_iadd (pc := 296) C dL_law_296 ?_
      refine g_sld (pc := 297) C hc h dL_law_297 (fun h => ?_)
      refine g_callV (pc := 298) C 0 (c_X11_meter (Xl X) (Xb X) (xs (Int32.toNatClampNeg (v3 + 1))) (xs (Int32.toNatClampNeg (v3 + 2))) S) (goodIn_mono wsL_law_in gL_law_X11_meter) rfl rfl rfl hd_X11_meter ⟨Nat.le_of_ble_eq_true rfl, Nat.le_of_ble_eq_true rfl⟩ (w_0 _ _) rfl rfl rfl (Nat.le_of_ble_eq_true rfl) dL_law_298 h (fun r18 S17 h => ?_)
      change G X _ S17 301 [(0, .ref sb), (1, .ref (ad X 0)), (2, .ref (ad X 12)), (3, .int v3)] [.int r18]
      refine g_aload_n (pc := 301) C dL_law_301 rfl 2 rfl ?_
      refine g_aload_n (pc := 302) C dL_law_302 rfl 0 rfl ?_
      refine g_iload_n (pc := 303) C dL_law_303 rfl 3 rfl ?_
      refine g_iconst (pc := 304) (v := 1) C dL_law_304 (by decide) ?_
      refine g_iadd (pc := 305) C dL_law_305 ?_
      refine g_sld (pc := 306) C hc h dL_law_306 (fun h => ?_)
      refine g_aload_n (pc := 307) C dL_law_307 rfl 0 rfl ?_
      refine g_iload_n (pc := 308) C dL_law_308 rfl 3 rfl ?_
      refine g_iconst (pc := 309) (v := 2) C dL_law_309 (by decide) ?_
      refine g_iadd (pc := 310) C dL_law_310 ?_
      refine g_sld (pc := 311) C hc h dL_law_311 (fun h => ?_)
      refine g_callV (pc := 312) C 12 (c_X12_meter (Xl X) (Xb X) (xs (Int32.toNatClampNeg (v3 + 1))) (xs (Int32.toNatClampNeg (v3 + 2))) S17) (goodIn_mono wsL_law_in gL_law_X12_meter) rfl rfl rfl hd_X12_meter ⟨Nat.le_of_ble_eq_true rfl, Nat.le_of_ble_eq_true rfl⟩ (w_12 _ _) rfl rfl rfl (Nat.le_of_ble_eq_true rfl) dL_law_312 h (fun r20 S19 h => ?_)
      change G X _ S19 315 [(0, .ref sb), (1, .ref (ad X 0)), (2, .ref (ad X 12)), (3, .int v3)] [.int r20, .int r18]
      refine g_icmp_eq (pc := 315) (tgt := 722) C h dL_law_315 (by decide) (fun h => ?_) (fun h => ?_)
      · refine g_weak (lv1 := [(0, .ref sb), (1, .ref (ad X 0)), (2, .ref (ad X 12)), (3, .int v3)]) [0, 1, 2, 3] rfl ?_
        exact s_L_law_b722 C hc hret v3 hrec30  S19 h h1
      · refine g_iconst (pc := 318) (v := 0) C dL_law_318 (by decide) ?_
        cases h
        cases h1
    replace h := ite_f h hq16
    by_cases hq21 : ((xs (Int32.toNatClampNeg v3)) &&& 31) = 4
    · replace h := ite_t h hq21
      refine g_swIn (pc := 45) (tgt := 320) C 4 hq21 dL_law_45 (by decide) (by decide) rfl (by decide) ?_
      refine g_aload_n (pc := 320) C dL_law_320 rfl 1 rfl ?_
      refine g_aload_n (pc := 321) C dL_law_321 rfl 0 rfl ?_
      refine g_iload_n (pc := 322) C dL_law_322 rfl 3 rfl ?_
      refine g_iconst (pc := 323) (v := 1) C dL_law_323 (by decide) ?_
      refine g_iadd (pc := 324) C dL_law_324 ?_
      refine g_sld (pc := 325) C hc h dL_law_325 (fun h => ?_)
      refine g_aload_n (pc := 326) C dL_law_326 rfl 0 rfl ?_
      refine g_iload_n (pc := 327) C dL_law_327 rfl 3 rfl ?_
      refine g_iconst (pc := 328) (v := 2) C dL_law_328 (by decide) ?_
      refine g_iadd (pc := 329) C dL_law_329 ?_
      refine g_sld (pc := 330) C hc h dL_law_330 (fun h => ?_)
      refine g_aload_n (pc := 331) C dL_law_331 rfl 0 rfl ?_
      refine g_iload_n (pc := 332) C dL_law_332 rfl 3 rfl ?_
      refine g_iconst (pc := 333) (v := 3) C dL_law_333 (by decide) ?_
      refine g_iadd (pc := 334) C dL_law_334 ?_
      refine g_sld (pc := 335) C hc h dL_law_335 (fun h => ?_)
      refine g_callV (pc := 336) C 0 (c_X11_arc (Xl X) (Xb X) (xs (Int32.toNatClampNeg (v3 + 1))) (xs (Int32.toNatClampNeg (v3 + 2))) (xs (Int32.toNatClampNeg (v3 + 3))) S) (goodIn_mono wsL_law_in gL_law_X11_arc) rfl rfl rfl hd_X11_arc ⟨Nat.le_of_ble_eq_true rfl, Nat.le_of_ble_eq_true rfl⟩ (w_0 _ _) rfl rfl rfl (Nat.le_of_ble_eq_true rfl) dL_law_336 h (fun r23 S22 h => ?_)
      change G X _ S22 339 [(0, .ref sb), (1, .ref (ad X 0)), (2, .ref (ad X 12)), (3, .int v3)] [.int r23]
      refine g_aload_n (pc := 339) C dL_law_339 rfl 2 rfl ?_
      refine g_aload_n (pc := 340) C dL_law_340 rfl 0 rfl ?_
      refine g_iload_n (pc := 341) C dL_law_341 rfl 3 rfl ?_
      refine g_iconst (pc := 342) (v := 1) C dL_law_342 (by decide) ?_
      refine g_iadd (pc := 343) C dL_law_343 ?_
      refine g_sld (pc := 344) C hc h dL_law_344 (fun h => ?_)
      refine g_aload_n (pc := 345) C dL_law_345 rfl 0 rfl ?_
      refine g_iload_n (pc := 346) C dL_law_346 rfl 3 rfl ?_
      refine g_iconst (pc := 347) (v := 2) C dL_law_347 (by decide) ?_
      refine g_iadd (pc := 348) C dL_law_348 ?_
      refine g_sld (pc := 349) C hc h dL_law_349 (fun h => ?_)
      refine g_aload_n (pc := 350) C dL_law_350 rfl 0 rfl ?_
      refine g_iload_n (pc := 351) C dL_law_351 rfl 3 rfl ?_
      refine g_iconst (pc := 352) (v := 3) C dL_law_352 (by decide) ?_
      refine g_iadd (pc := 353) C dL_law_353 ?_
      refine g_sld (pc := 354) C hc h dL_law_354 (fun h => ?_)
      refine g_callV (pc := 355) C 12 (c_X12_arc (Xl X) (Xb X) (xs (Int32.toNatClampNeg (v3 + 1))) (xs (Int32.toNatClampNeg (v3 + 2))) (xs (Int32.toNatClampNeg (v3 + 3))) S22) (goodIn_mono wsL_law_in gL_law_X12_arc) rfl rfl rfl hd_X12_arc ⟨Nat.le_of_ble_eq_true rfl, Nat.le_of_ble_eq_true rfl⟩ (w_12 _ _) rfl rfl rfl (Nat.le_of_ble_eq_true rfl) dL_law_355 h (fun r25 S24 h => ?_)
      change G X _ S24 358 [(0, .ref sb), (1, .ref (ad X 0)), (2, .ref (ad X 12)), (3, .int v3)] [.int r25, .int r23]
      refine g_icmp_eq (pc := 358) (tgt := 722) C h dL_law_358 (by decide) (fun h => ?_) (fun h => ?_)
      · refine g_weak (lv1 := [(0, .ref sb), (1, .ref (ad X 0)), (2, .ref (ad X 12)), (3, .int v3)]) [0, 1, 2, 3] rfl ?_
        exact s_L_law_b722 C hc hret v3 hrec30  S24 h h1
      · refine g_iconst (pc := 361) (v := 0) C dL_law_361 (by decide) ?_
        cases h
        cases h1
    replace h := ite_f h hq21
    by_cases hq26 : ((xs (Int32.toNatClampNeg v3)) &&& 31) = 5
    · replace h := ite_t h hq26
      refine g_swIn (pc := 45) (tgt := 363) C 5 hq26 dL_law_45 (by decide) (by decide) rfl (by decide) ?_
      refine g_aload_n (pc := 363) C dL_law_363 rfl 1 rfl ?_
      refine g_aload_n (pc := 364) C dL_law_364 rfl 0 rfl ?_
      refine g_iload_n (pc := 365) C dL_law_365 rfl 3 rfl ?_
      refine g_iconst (pc := 366) (v := 1) C dL_law_366 (by decide) ?_
      refine g_iadd (pc := 367) C dL_law_367 ?_
      refine g_sld (pc := 368) C hc h dL_law_368 (fun h => ?_)
      refine g_callV (pc := 369) C 0 (c_X11_levelAt (Xl X) (Xb X) (xs (Int32.toNatClampNeg (v3 + 1))) S) (goodIn_mono wsL_law_in gL_law_X11_levelAt) rfl rfl rfl hd_X11_levelAt ⟨Nat.le_of_ble_eq_true rfl, Nat.le_of_ble_eq_true rfl⟩ (w_0 _ _) rfl rfl rfl (Nat.le_of_ble_eq_true rfl) dL_law_369 h (fun r28 S27 h => ?_)
      change G X _ S27 372 [(0, .ref sb), (1, .ref (ad X 0)), (2, .ref (ad X 12)), (3, .int v3)] [.int r28]
      refine g_aload_n (pc := 372) C dL_law_372 rfl 2 rfl ?_
      refine g_aload_n (pc := 373) C dL_law_373 rfl 0 rfl ?_
      refine g_iload_n (pc := 374) C dL_law_374 rfl 3 rfl ?_
      refine g_iconst (pc := 375) (v := 1) C dL_law_375 (by decide) ?_
      refine g_iadd (pc := 376) C dL_law_376 ?_
      refine g_sld (pc := 377) C hc h dL_law_377 (fun h => ?_)
      refine g_callV (pc := 378) C 12 (c_X12_levelAt (Xl X) (Xb X) (xs (Int32.toNatClampNeg (v3 + 1))) S27) (goodIn_mono wsL_law_in gL_law_X12_levelAt) rfl rfl rfl hd_X12_levelAt ⟨Nat.le_of_ble_eq_true rfl, Nat.le_of_ble_eq_true rfl⟩ (w_12 _ _) rfl rfl rfl (Nat.le_of_ble_eq_true rfl) dL_law_378 h (fun r30 S29 h => ?_)
      change G X _ S29 381 [(0, .ref sb), (1, .ref (ad X 0)), (2, .ref (ad X 12)), (3, .int v3)] [.int r30, .int r28]
      refine g_icmp_eq (pc := 381) (tgt := 722) C h dL_law_381 (by decide) (fun h => ?_) (fun h => ?_)
      · refine g_weak (lv1 := [(0, .ref sb), (1, .ref (ad X 0)), (2, .ref (ad X 12)), (3, .int v3)]) [0, 1, 2, 3] rfl ?_
        exact s_L_law_b722 C hc hret v3 hrec30  S29 h h1
      · refine g_iconst (pc := 384) (v := 0) C dL_law_384 (by decide) ?_
        cases h
        cases h1
    replace h := ite_f h hq26
    by_cases hq31 : ((xs (Int32.toNatClampNeg v3)) &&& 31) = 6
    · replace h := ite_t h hq31
      refine g_swIn (pc := 45) (tgt := 386) C 6 hq31 dL_law_45 (by decide) (by decide) rfl (by decide) ?_
      refine g_aload_n (pc := 386) C dL_law_386 rfl 1 rfl ?_
      refine g_aload_n (pc := 387) C dL_law_387 rfl 0 rfl ?_
      refine g_iload_n (pc := 388) C dL_law_388 rfl 3 rfl ?_
      refine g_iconst (pc := 389) (v := 1) C dL_law_389 (by decide) ?_
      refine g_iadd (pc := 390) C dL_law_390 ?_
      refine g_sld (pc := 391) C hc h dL_law_391 (fun h => ?_)
      refine g_callV (pc := 392) C 0 (c_X11_timeOf (Xl X) (Xb X) (xs (Int32.toNatClampNeg (v3 + 1))) S) (goodIn_mono wsL_law_in gL_law_X11_timeOf) rfl rfl rfl hd_X11_timeOf ⟨Nat.le_of_ble_eq_true rfl, Nat.le_of_ble_eq_true rfl⟩ (w_0 _ _) rfl rfl rfl (Nat.le_of_ble_eq_true rfl) dL_law_392 h (fun r33 S32 h => ?_)
      change G X _ S32 395 [(0, .ref sb), (1, .ref (ad X 0)), (2, .ref (ad X 12)), (3, .int v3)] [.int r33]
      refine g_aload_n (pc := 395) C dL_law_395 rfl 2 rfl ?_
      refine g_aload_n (pc := 396) C dL_law_396 rfl 0 rfl ?_
      refine g_iload_n (pc := 397) C dL_law_397 rfl 3 rfl ?_
      refine g_iconst (pc := 398) (v := 1) C dL_law_398 (by decide) ?_
      refine g_iadd (pc := 399) C dL_law_399 ?_
      refine g_sld (pc := 400) C hc h dL_law_400 (fun h => ?_)
      refine g_callV (pc := 401) C 12 (c_X12_timeOf (Xl X) (Xb X) (xs (Int32.toNatClampNeg (v3 + 1))) S32) (goodIn_mono wsL_law_in gL_law_X12_timeOf) rfl rfl rfl hd_X12_timeOf ⟨Nat.le_of_ble_eq_true rfl, Nat.le_of_ble_eq_true rfl⟩ (w_12 _ _) rfl rfl rfl (Nat.le_of_ble_eq_true rfl) dL_law_401 h (fun r35 S34 h => ?_)
      change G X _ S34 404 [(0, .ref sb), (1, .ref (ad X 0)), (2, .ref (ad X 12)), (3, .int v3)] [.int r35, .int r33]
      refine g_icmp_eq (pc := 404) (tgt := 722) C h dL_law_404 (by decide) (fun h => ?_) (fun h => ?_)
      · refine g_weak (lv1 := [(0, .ref sb), (1, .ref (ad X 0)), (2, .ref (ad X 12)), (3, .int v3)]) [0, 1, 2, 3] rfl ?_
        exact s_L_law_b722 C hc hret v3 hrec30  S34 h h1
      · refine g_iconst (pc := 407) (v := 0) C dL_law_407 (by decide) ?_
        cases h
        cases h1
    replace h := ite_f h hq31
    by_cases hq36 : ((xs (Int32.toNatClampNeg v3)) &&& 31) = 7
    · replace h := ite_t h hq36
      refine g_swIn (pc := 45) (tgt := 409) C 7 hq36 dL_law_45 (by decide) (by decide) rfl (by decide) ?_
      refine g_aload_n (pc := 409) C dL_law_409 rfl 1 rfl ?_
      refine g_aload_n (pc := 410) C dL_law_410 rfl 0 rfl ?_
      refine g_iload_n (pc := 411) C dL_law_411 rfl 3 rfl ?_
      refine g_iconst (pc := 412) (v := 1) C dL_law_412 (by decide) ?_
      refine g_iadd (pc := 413) C dL_law_413 ?_
      refine g_sld (pc := 414) C hc h dL_law_414 (fun h => ?_)
      refine g_aload_n (pc := 415) C dL_law_415 rfl 0 rfl ?_
      refine g_iload_n (pc := 416) C dL_law_416 rfl 3 rfl ?_
      refine g_iconst (pc := 417) (v := 2) C dL_law_417 (by decide) ?_
      refine g_iadd (pc := 418) C dL_law_418 ?_
      refine g_sld (pc := 419) C hc h dL_law_419 (fun h => ?_)
      refine g_i2l (pc := 420) C dL_law_420 ?_
      refine g_bipush (pc := 421) (v := 32) C dL_law_421 (by decide) ?_
      refine g_lshl (pc := 423) C dL_law_423 ?_
      refine g_aload_n (pc := 424) C dL_law_424 rfl 0 rfl ?_
      refine g_iload_n (pc := 425) C dL_law_425 rfl 3 rfl ?_
      refine g_iconst (pc := 426) (v := 3) C dL_law_426 (by decide) ?_
      refine g_iadd (pc := 427) C dL_law_427 ?_
      refine g_sld (pc := 428) C hc h dL_law_428 (fun h => ?_)
      refine g_i2l (pc := 429) C dL_law_429 ?_
      refine g_ldc2 (pc := 430) (v := 4294967295) C k54_L_law dL_law_430 ?_
      refine g_land (pc := 433) C dL_law_433 ?_
      refine g_lor (pc := 434) C dL_law_434 ?_
      refine g_callV (pc := 435) C 0 (c_X11_feed (Xl X) (Xb X) (xs (Int32.toNatClampNeg (v3 + 1))) (((Int32.toInt64 (xs (Int32.toNatClampNeg (v3 + 2)))) <<< (Int32.toInt64 32 &&& 63)) ||| ((Int32.toInt64 (xs (Int32.toNatClampNeg (v3 + 3)))) &&& 4294967295)) S) (goodIn_mono wsL_law_in gL_law_X11_feed) rfl rfl rfl hd_X11_feed ⟨Nat.le_of_ble_eq_true rfl, Nat.le_of_ble_eq_true rfl⟩ (w_0 _ _) rfl rfl rfl (Nat.le_of_ble_eq_true rfl) dL_law_435 h (fun r38 S37 h => ?_)
      change G X _ S37 438 [(0, .ref sb), (1, .ref (ad X 0)), (2, .ref (ad X 12)), (3, .int v3)] [.int r38]
      refine g_aload_n (pc := 438) C dL_law_438 rfl 2 rfl ?_
      refine g_aload_n (pc := 439) C dL_law_439 rfl 0 rfl ?_
      refine g_iload_n (pc := 440) C dL_law_440 rfl 3 rfl ?_
      refine g_iconst (pc := 441) (v := 1) C dL_law_441 (by decide) ?_
      refine g_iadd (pc := 442) C dL_law_442 ?_
      refine g_sld (pc := 443) C hc h dL_law_443 (fun h => ?_)
      refine g_aload_n (pc := 444) C dL_law_444 rfl 0 rfl ?_
      refine g_iload_n (pc := 445) C dL_law_445 rfl 3 rfl ?_
      refine g_iconst (pc := 446) (v := 2) C dL_law_446 (by decide) ?_
      refine g_iadd (pc := 447) C dL_law_447 ?_
      refine g_sld (pc := 448) C hc h dL_law_448 (fun h => ?_)
      refine g_i2l (pc := 449) C dL_law_449 ?_
      refine g_bipush (pc := 450) (v := 32) C dL_law_450 (by decide) ?_
      refine g_lshl (pc := 452) C dL_law_452 ?_
      refine g_aload_n (pc := 453) C dL_law_453 rfl 0 rfl ?_
      refine g_iload_n (pc := 454) C dL_law_454 rfl 3 rfl ?_
      refine g_iconst (pc := 455) (v := 3) C dL_law_455 (by decide) ?_
      refine g_iadd (pc := 456) C dL_law_456 ?_
      refine g_sld (pc := 457) C hc h dL_law_457 (fun h => ?_)
      refine g_i2l (pc := 458) C dL_law_458 ?_
      refine g_ldc2 (pc := 459) (v := 4294967295) C k54_L_law dL_law_459 ?_
      refine g_land (pc := 462) C dL_law_462 ?_
      refine g_lor (pc := 463) C dL_law_463 ?_
      refine g_callV (pc := 464) C 12 (c_X12_feed (Xl X) (Xb X) (xs (Int32.toNatClampNeg (v3 + 1))) (((Int32.toInt64 (xs (Int32.toNatClampNeg (v3 + 2)))) <<< (Int32.toInt64 32 &&& 63)) ||| ((Int32.toInt64 (xs (Int32.toNatClampNeg (v3 + 3)))) &&& 4294967295)) S37) (goodIn_mono wsL_law_in gL_law_X12_feed) rfl rfl rfl hd_X12_feed ⟨Nat.le_of_ble_eq_true rfl, Nat.le_of_ble_eq_true rfl⟩ (w_12 _ _) rfl rfl rfl (Nat.le_of_ble_eq_true rfl) dL_law_464 h (fun r40 S39 h => ?_)
      change G X _ S39 467 [(0, .ref sb), (1, .ref (ad X 0)), (2, .ref (ad X 12)), (3, .int v3)] [.int r40, .int r38]
      refine g_icmp_eq (pc := 467) (tgt := 722) C h dL_law_467 (by decide) (fun h => ?_) (fun h => ?_)
      · refine g_weak (lv1 := [(0, .ref sb), (1, .ref (ad X 0)), (2, .ref (ad X 12)), (3, .int v3)]) [0, 1, 2, 3] rfl ?_
        exact s_L_law_b722 C hc hret v3 hrec30  S39 h h1
      · refine g_iconst (pc := 470) (v := 0) C dL_law_470 (by decide) ?_
        cases h
        cases h1
    replace h := ite_f h hq36
    by_cases hq41 : ((xs (Int32.toNatClampNeg v3)) &&& 31) = 8
    · replace h := ite_t h hq41
      refine g_swIn (pc := 45) (tgt := 472) C 8 hq41 dL_law_45 (by decide) (by decide) rfl (by decide) ?_
      refine g_aload_n (pc := 472) C dL_law_472 rfl 1 rfl ?_
      refine g_callV (pc := 473) C 0 (c_X11_read (Xl X) (Xb X) S) (goodIn_mono wsL_law_in gL_law_X11_read) rfl rfl rfl hd_X11_read ⟨Nat.le_of_ble_eq_true rfl, Nat.le_of_ble_eq_true rfl⟩ (w_0 _ _) rfl rfl rfl (Nat.le_of_ble_eq_true rfl) dL_law_473 h (fun r43 S42 h => ?_)
      change G X _ S42 476 [(0, .ref sb), (1, .ref (ad X 0)), (2, .ref (ad X 12)), (3, .int v3)] [.int r43]
      refine g_aload_n (pc := 476) C dL_law_476 rfl 2 rfl ?_
      refine g_callV (pc := 477) C 12 (c_X12_read (Xl X) (Xb X) S42) (goodIn_mono wsL_law_in gL_law_X12_read) rfl rfl rfl hd_X12_read ⟨Nat.le_of_ble_eq_true rfl, Nat.le_of_ble_eq_true rfl⟩ (w_12 _ _) rfl rfl rfl (Nat.le_of_ble_eq_true rfl) dL_law_477 h (fun r45 S44 h => ?_)
      change G X _ S44 480 [(0, .ref sb), (1, .ref (ad X 0)), (2, .ref (ad X 12)), (3, .int v3)] [.int r45, .int r43]
      refine g_icmp_eq (pc := 480) (tgt := 722) C h dL_law_480 (by decide) (fun h => ?_) (fun h => ?_)
      · refine g_weak (lv1 := [(0, .ref sb), (1, .ref (ad X 0)), (2, .ref (ad X 12)), (3, .int v3)]) [0, 1, 2, 3] rfl ?_
        exact s_L_law_b722 C hc hret v3 hrec30  S44 h h1
      · refine g_iconst (pc := 483) (v := 0) C dL_law_483 (by decide) ?_
        cases h
        cases h1
    replace h := ite_f h hq41
    by_cases hq46 : ((xs (Int32.toNatClampNeg v3)) &&& 31) = 9
    · replace h := ite_t h hq46
      refine g_swIn (pc := 45) (tgt := 485) C 9 hq46 dL_law_45 (by decide) (by decide) rfl (by decide) ?_
      refine g_aload_n (pc := 485) C dL_law_485 rfl 1 rfl ?_
      refine g_callV (pc := 486) C 0 (c_X11_plain (Xl X) (Xb X) S) (goodIn_mono wsL_law_in gL_law_X11_plain) rfl rfl rfl hd_X11_plain ⟨Nat.le_of_ble_eq_true rfl, Nat.le_of_ble_eq_true rfl⟩ (w_0 _ _) rfl rfl rfl (Nat.le_of_ble_eq_true rfl) dL_law_486 h (fun r48 S47 h => ?_)
      change G X _ S47 489 [(0, .ref sb), (1, .ref (ad X 0)), (2, .ref (ad X 12)), (3, .int v3)] [.int r48]
      refine g_aload_n (pc := 489) C dL_law_489 rfl 2 rfl ?_
      refine g_callV (pc := 490) C 12 (c_X12_plain (Xl X) (Xb X) S47) (goodIn_mono wsL_law_in gL_law_X12_plain) rfl rfl rfl hd_X12_plain ⟨Nat.le_of_ble_eq_true rfl, Nat.le_of_ble_eq_true rfl⟩ (w_12 _ _) rfl rfl rfl (Nat.le_of_ble_eq_true rfl) dL_law_490 h (fun r50 S49 h => ?_)
      change G X _ S49 493 [(0, .ref sb), (1, .ref (ad X 0)), (2, .ref (ad X 12)), (3, .int v3)] [.int r50, .int r48]
      refine g_icmp_eq (pc := 493) (tgt := 722) C h dL_law_493 (by decide) (fun h => ?_) (fun h => ?_)
      · refine g_weak (lv1 := [(0, .ref sb), (1, .ref (ad X 0)), (2, .ref (ad X 12)), (3, .int v3)]) [0, 1, 2, 3] rfl ?_
        exact s_L_law_b722 C hc hret v3 hrec30  S49 h h1
      · refine g_iconst (pc := 496) (v := 0) C dL_law_496 (by decide) ?_
        cases h
        cases h1
    replace h := ite_f h hq46
    by_cases hq51 : ((xs (Int32.toNatClampNeg v3)) &&& 31) = 10
    · replace h := ite_t h hq51
      refine g_swIn (pc := 45) (tgt := 498) C 10 hq51 dL_law_45 (by decide) (by decide) rfl (by decide) ?_
      refine g_aload_n (pc := 498) C dL_law_498 rfl 1 rfl ?_
      refine g_aload_n (pc := 499) C dL_law_499 rfl 0 rfl ?_
      refine g_iload_n (pc := 500) C dL_law_500 rfl 3 rfl ?_
      refine g_iconst (pc := 501) (v := 1) C dL_law_501 (by decide) ?_
      refine g_iadd (pc := 502) C dL_law_502 ?_
      refine g_sld (pc := 503) C hc h dL_law_503 (fun h => ?_)
      refine g_aload_n (pc := 504) C dL_law_504 rfl 0 rfl ?_
      refine g_iload_n (pc := 505) C dL_law_505 rfl 3 rfl ?_
      refine g_iconst (pc := 506) (v := 2) C dL_law_506 (by decide) ?_
      refine g_iadd (pc := 507) C dL_law_507 ?_
      refine g_sld (pc := 508) C hc h dL_law_508 (fun h => ?_)
      refine g_callV (pc := 509) C 0 (c_X11_rule (Xl X) (Xb X) (xs (Int32.toNatClampNeg (v3 + 1))) (xs (Int32.toNatClampNeg (v3 + 2))) S) (goodIn_mono wsL_law_in gL_law_X11_rule) rfl rfl rfl hd_X11_rule ⟨Nat.le_of_ble_eq_true rfl, Nat.le_of_ble_eq_true rfl⟩ (w_0 _ _) rfl rfl rfl (Nat.le_of_ble_eq_true rfl) dL_law_509 h (fun r53 S52 h => ?_)
      change G X _ S52 512 [(0, .ref sb), (1, .ref (ad X 0)), (2, .ref (ad X 12)), (3, .int v3)] [.int r53]
      refine g_aload_n (pc := 512) C dL_law_512 rfl 2 rfl ?_
      refine g_aload_n (pc := 513) C dL_law_513 rfl 0 rfl ?_
      refine g_iload_n (pc := 514) C dL_law_514 rfl 3 rfl ?_
      refine g_iconst (pc := 515) (v := 1) C dL_law_515 (by decide) ?_
      refine g_iadd (pc := 516) C dL_law_516 ?_
      refine g_sld (pc := 517) C hc h dL_law_517 (fun h => ?_)
      refine g_aload_n (pc := 518) C dL_law_518 rfl 0 rfl ?_
      refine g_iload_n (pc := 519) C dL_law_519 rfl 3 rfl ?_
      refine g_iconst (pc := 520) (v := 2) C dL_law_520 (by decide) ?_
      refine g_iadd (pc := 521) C dL_law_521 ?_
      refine g_sld (pc := 522) C hc h dL_law_522 (fun h => ?_)
      refine g_callV (pc := 523) C 12 (c_X12_rule (Xl X) (Xb X) (xs (Int32.toNatClampNeg (v3 + 1))) (xs (Int32.toNatClampNeg (v3 + 2))) S52) (goodIn_mono wsL_law_in gL_law_X12_rule) rfl rfl rfl hd_X12_rule ⟨Nat.le_of_ble_eq_true rfl, Nat.le_of_ble_eq_true rfl⟩ (w_12 _ _) rfl rfl rfl (Nat.le_of_ble_eq_true rfl) dL_law_523 h (fun r55 S54 h => ?_)
      change G X _ S54 526 [(0, .ref sb), (1, .ref (ad X 0)), (2, .ref (ad X 12)), (3, .int v3)] [.int r55, .int r53]
      refine g_icmp_eq (pc := 526) (tgt := 722) C h dL_law_526 (by decide) (fun h => ?_) (fun h => ?_)
      · refine g_weak (lv1 := [(0, .ref sb), (1, .ref (ad X 0)), (2, .ref (ad X 12)), (3, .int v3)]) [0, 1, 2, 3] rfl ?_
        exact s_L_law_b722 C hc hret v3 hrec30  S54 h h1
      · refine g_iconst (pc := 529) (v := 0) C dL_law_529 (by decide) ?_
        cases h
        cases h1
    replace h := ite_f h hq51
    by_cases hq56 : ((xs (Int32.toNatClampNeg v3)) &&& 31) = 11
    · replace h := ite_t h hq56
      refine g_swIn (pc := 45) (tgt := 531) C 11 hq56 dL_law_45 (by decide) (by decide) rfl (by decide) ?_
      refine g_aload_n (pc := 531) C dL_law_531 rfl 1 rfl ?_
      refine g_aload_n (pc := 532) C dL_law_532 rfl 0 rfl ?_
      refine g_iload_n (pc := 533) C dL_law_533 rfl 3 rfl ?_
      refine g_iconst (pc := 534) (v := 1) C dL_law_534 (by decide) ?_
      refine g_iadd (pc := 535) C dL_law_535 ?_
      refine g_sld (pc := 536) C hc h dL_law_536 (fun h => ?_)
      refine g_aload_n (pc := 537) C dL_law_537 rfl 0 rfl ?_
      refine g_iload_n (pc := 538) C dL_law_538 rfl 3 rfl ?_
      refine g_iconst (pc := 539) (v := 2) C dL_law_539 (by decide) ?_
      refine g_iadd (pc := 540) C dL_law_540 ?_
      refine g_sld (pc := 541) C hc h dL_law_541 (fun h => ?_)
      refine g_callV (pc := 542) C 0 (c_X11_value (Xl X) (Xb X) (xs (Int32.toNatClampNeg (v3 + 1))) (xs (Int32.toNatClampNeg (v3 + 2))) S) (goodIn_mono wsL_law_in gL_law_X11_value) rfl rfl rfl hd_X11_value ⟨Nat.le_of_ble_eq_true rfl, Nat.le_of_ble_eq_true rfl⟩ (w_0 _ _) rfl rfl rfl (Nat.le_of_ble_eq_true rfl) dL_law_542 h (fun r58 S57 h => ?_)
      change G X _ S57 545 [(0, .ref sb), (1, .ref (ad X 0)), (2, .ref (ad X 12)), (3, .int v3)] [.int r58]
      refine g_aload_n (pc := 545) C dL_law_545 rfl 2 rfl ?_
      refine g_aload_n (pc := 546) C dL_law_546 rfl 0 rfl ?_
      refine g_iload_n (pc := 547) C dL_law_547 rfl 3 rfl ?_
      refine g_iconst (pc := 548) (v := 1) C dL_law_548 (by decide) ?_
      refine g_iadd (pc := 549) C dL_law_549 ?_
      refine g_sld (pc := 550) C hc h dL_law_550 (fun h => ?_)
      refine g_aload_n (pc := 551) C dL_law_551 rfl 0 rfl ?_
      refine g_iload_n (pc := 552) C dL_law_552 rfl 3 rfl ?_
      refine g_iconst (pc := 553) (v := 2) C dL_law_553 (by decide) ?_
      refine g_iadd (pc := 554) C dL_law_554 ?_
      refine g_sld (pc := 555) C hc h dL_law_555 (fun h => ?_)
      refine g_callV (pc := 556) C 12 (c_X12_value (Xl X) (Xb X) (xs (Int32.toNatClampNeg (v3 + 1))) (xs (Int32.toNatClampNeg (v3 + 2))) S57) (goodIn_mono wsL_law_in gL_law_X12_value) rfl rfl rfl hd_X12_value ⟨Nat.le_of_ble_eq_true rfl, Nat.le_of_ble_eq_true rfl⟩ (w_12 _ _) rfl rfl rfl (Nat.le_of_ble_eq_true rfl) dL_law_556 h (fun r60 S59 h => ?_)
      change G X _ S59 559 [(0, .ref sb), (1, .ref (ad X 0)), (2, .ref (ad X 12)), (3, .int v3)] [.int r60, .int r58]
      refine g_icmp_eq (pc := 559) (tgt := 722) C h dL_law_559 (by decide) (fun h => ?_) (fun h => ?_)
      · refine g_weak (lv1 := [(0, .ref sb), (1, .ref (ad X 0)), (2, .ref (ad X 12)), (3, .int v3)]) [0, 1, 2, 3] rfl ?_
        exact s_L_law_b722 C hc hret v3 hrec30  S59 h h1
      · refine g_iconst (pc := 562) (v := 0) C dL_law_562 (by decide) ?_
        cases h
        cases h1
    replace h := ite_f h hq56
    by_cases hq61 : ((xs (Int32.toNatClampNeg v3)) &&& 31) = 12
    · replace h := ite_t h hq61
      refine g_swIn (pc := 45) (tgt := 564) C 12 hq61 dL_law_45 (by decide) (by decide) rfl (by decide) ?_
      refine g_aload_n (pc := 564) C dL_law_564 rfl 1 rfl ?_
      refine g_aload_n (pc := 565) C dL_law_565 rfl 0 rfl ?_
      refine g_iload_n (pc := 566) C dL_law_566 rfl 3 rfl ?_
      refine g_iconst (pc := 567) (v := 1) C dL_law_567 (by decide) ?_
      refine g_iadd (pc := 568) C dL_law_568 ?_
      refine g_sld (pc := 569) C hc h dL_law_569 (fun h => ?_)
      refine g_aload_n (pc := 570) C dL_law_570 rfl 0 rfl ?_
      refine g_iload_n (pc := 571) C dL_law_571 rfl 3 rfl ?_
      refine g_iconst (pc := 572) (v := 2) C dL_law_572 (by decide) ?_
      refine g_iadd (pc := 573) C dL_law_573 ?_
      refine g_sld (pc := 574) C hc h dL_law_574 (fun h => ?_)
      refine g_callV (pc := 575) C 0 (c_X11_why (Xl X) (Xb X) (xs (Int32.toNatClampNeg (v3 + 1))) (xs (Int32.toNatClampNeg (v3 + 2))) S) (goodIn_mono wsL_law_in gL_law_X11_why) rfl rfl rfl hd_X11_why ⟨Nat.le_of_ble_eq_true rfl, Nat.le_of_ble_eq_true rfl⟩ (w_0 _ _) rfl rfl rfl (Nat.le_of_ble_eq_true rfl) dL_law_575 h (fun r63 S62 h => ?_)
      change G X _ S62 578 [(0, .ref sb), (1, .ref (ad X 0)), (2, .ref (ad X 12)), (3, .int v3)] [.int r63]
      refine g_aload_n (pc := 578) C dL_law_578 rfl 2 rfl ?_
      refine g_aload_n (pc := 579) C dL_law_579 rfl 0 rfl ?_
      refine g_iload_n (pc := 580) C dL_law_580 rfl 3 rfl ?_
      refine g_iconst (pc := 581) (v := 1) C dL_law_581 (by decide) ?_
      refine g_iadd (pc := 582) C dL_law_582 ?_
      refine g_sld (pc := 583) C hc h dL_law_583 (fun h => ?_)
      refine g_aload_n (pc := 584) C dL_law_584 rfl 0 rfl ?_
      refine g_iload_n (pc := 585) C dL_law_585 rfl 3 rfl ?_
      refine g_iconst (pc := 586) (v := 2) C dL_law_586 (by decide) ?_
      refine g_iadd (pc := 587) C dL_law_587 ?_
      refine g_sld (pc := 588) C hc h dL_law_588 (fun h => ?_)
      refine g_callV (pc := 589) C 12 (c_X12_why (Xl X) (Xb X) (xs (Int32.toNatClampNeg (v3 + 1))) (xs (Int32.toNatClampNeg (v3 + 2))) S62) (goodIn_mono wsL_law_in gL_law_X12_why) rfl rfl rfl hd_X12_why ⟨Nat.le_of_ble_eq_true rfl, Nat.le_of_ble_eq_true rfl⟩ (w_12 _ _) rfl rfl rfl (Nat.le_of_ble_eq_true rfl) dL_law_589 h (fun r65 S64 h => ?_)
      change G X _ S64 592 [(0, .ref sb), (1, .ref (ad X 0)), (2, .ref (ad X 12)), (3, .int v3)] [.int r65, .int r63]
      refine g_icmp_eq (pc := 592) (tgt := 722) C h dL_law_592 (by decide) (fun h => ?_) (fun h => ?_)
      · refine g_weak (lv1 := [(0, .ref sb), (1, .ref (ad X 0)), (2, .ref (ad X 12)), (3, .int v3)]) [0, 1, 2, 3] rfl ?_
        exact s_L_law_b722 C hc hret v3 hrec30  S64 h h1
      · refine g_iconst (pc := 595) (v := 0) C dL_law_595 (by decide) ?_
        cases h
        cases h1
    replace h := ite_f h hq61
    by_cases hq66 : ((xs (Int32.toNatClampNeg v3)) &&& 31) = 13
    · replace h := ite_t h hq66
      refine g_swIn (pc := 45) (tgt := 597) C 13 hq66 dL_law_45 (by decide) (by decide) rfl (by decide) ?_
      refine g_aload_n (pc := 597) C dL_law_597 rfl 1 rfl ?_
      refine g_callV (pc := 598) C 0 (c_X11_perform (Xl X) (Xb X) S) (goodIn_mono wsL_law_in gL_law_X11_perform) rfl rfl rfl hd_X11_perform ⟨Nat.le_of_ble_eq_true rfl, Nat.le_of_ble_eq_true rfl⟩ (w_0 _ _) rfl rfl rfl (Nat.le_of_ble_eq_true rfl) dL_law_598 h (fun r68 S67 h => ?_)
      change G X _ S67 601 [(0, .ref sb), (1, .ref (ad X 0)), (2, .ref (ad X 12)), (3, .int v3)] [.int r68]
      refine g_aload_n (pc := 601) C dL_law_601 rfl 2 rfl ?_
      refine g_callV (pc := 602) C 12 (c_X12_perform (Xl X) (Xb X) S67) (goodIn_mono wsL_law_in gL_law_X12_perform) rfl rfl rfl hd_X12_perform ⟨Nat.le_of_ble_eq_true rfl, Nat.le_of_ble_eq_true rfl⟩ (w_12 _ _) rfl rfl rfl (Nat.le_of_ble_eq_true rfl) dL_law_602 h (fun r70 S69 h => ?_)
      change G X _ S69 605 [(0, .ref sb), (1, .ref (ad X 0)), (2, .ref (ad X 12)), (3, .int v3)] [.int r70, .int r68]
      refine g_icmp_eq (pc := 605) (tgt := 722) C h dL_law_605 (by decide) (fun h => ?_) (fun h => ?_)
      · refine g_weak (lv1 := [(0, .ref sb), (1, .ref (ad X 0)), (2, .ref (ad X 12)), (3, .int v3)]) [0, 1, 2, 3] rfl ?_
        exact s_L_law_b722 C hc hret v3 hrec30  S69 h h1
      · refine g_iconst (pc := 608) (v := 0) C dL_law_608 (by decide) ?_
        cases h
        cases h1
    replace h := ite_f h hq66
    by_cases hq71 : ((xs (Int32.toNatClampNeg v3)) &&& 31) = 14
    · replace h := ite_t h hq71
      refine g_swIn (pc := 45) (tgt := 610) C 14 hq71 dL_law_45 (by decide) (by decide) rfl (by decide) ?_
      refine g_aload_n (pc := 610) C dL_law_610 rfl 1 rfl ?_
      refine g_aload_n (pc := 611) C dL_law_611 rfl 0 rfl ?_
      refine g_iload_n (pc := 612) C dL_law_612 rfl 3 rfl ?_
      refine g_iconst (pc := 613) (v := 1) C dL_law_613 (by decide) ?_
      refine g_iadd (pc := 614) C dL_law_614 ?_
      refine g_sld (pc := 615) C hc h dL_law_615 (fun h => ?_)
      refine g_aload_n (pc := 616) C dL_law_616 rfl 0 rfl ?_
      refine g_iload_n (pc := 617) C dL_law_617 rfl 3 rfl ?_
      refine g_iconst (pc := 618) (v := 2) C dL_law_618 (by decide) ?_
      refine g_iadd (pc := 619) C dL_law_619 ?_
      refine g_sld (pc := 620) C hc h dL_law_620 (fun h => ?_)
      refine g_callV (pc := 621) C 0 (c_X11_event (Xl X) (Xb X) (xs (Int32.toNatClampNeg (v3 + 1))) (xs (Int32.toNatClampNeg (v3 + 2))) S) (goodIn_mono wsL_law_in gL_law_X11_event) rfl rfl rfl hd_X11_event ⟨Nat.le_of_ble_eq_true rfl, Nat.le_of_ble_eq_true rfl⟩ (w_0 _ _) rfl rfl rfl (Nat.le_of_ble_eq_true rfl) dL_law_621 h (fun r73 S72 h => ?_)
      change G X _ S72 624 [(0, .ref sb), (1, .ref (ad X 0)), (2, .ref (ad X 12)), (3, .int v3)] [.int r73]
      refine g_aload_n (pc := 624) C dL_law_624 rfl 2 rfl ?_
      refine g_aload_n (pc := 625) C dL_law_625 rfl 0 rfl ?_
      refine g_iload_n (pc := 626) C dL_law_626 rfl 3 rfl ?_
      refine g_iconst (pc := 627) (v := 1) C dL_law_627 (by decide) ?_
      refine g_iadd (pc := 628) C dL_law_628 ?_
      refine g_sld (pc := 629) C hc h dL_law_629 (fun h => ?_)
      refine g_aload_n (pc := 630) C dL_law_630 rfl 0 rfl ?_
      refine g_iload_n (pc := 631) C dL_law_631 rfl 3 rfl ?_
      refine g_iconst (pc := 632) (v := 2) C dL_law_632 (by decide) ?_
      refine g_iadd (pc := 633) C dL_law_633 ?_
      refine g_sld (pc := 634) C hc h dL_law_634 (fun h => ?_)
      refine g_callV (pc := 635) C 12 (c_X12_event (Xl X) (Xb X) (xs (Int32.toNatClampNeg (v3 + 1))) (xs (Int32.toNatClampNeg (v3 + 2))) S72) (goodIn_mono wsL_law_in gL_law_X12_event) rfl rfl rfl hd_X12_event ⟨Nat.le_of_ble_eq_true rfl, Nat.le_of_ble_eq_true rfl⟩ (w_12 _ _) rfl rfl rfl (Nat.le_of_ble_eq_true rfl) dL_law_635 h (fun r75 S74 h => ?_)
      change G X _ S74 638 [(0, .ref sb), (1, .ref (ad X 0)), (2, .ref (ad X 12)), (3, .int v3)] [.int r75, .int r73]
      refine g_icmp_eq (pc := 638) (tgt := 722) C h dL_law_638 (by decide) (fun h => ?_) (fun h => ?_)
      · refine g_weak (lv1 := [(0, .ref sb), (1, .ref (ad X 0)), (2, .ref (ad X 12)), (3, .int v3)]) [0, 1, 2, 3] rfl ?_
        exact s_L_law_b722 C hc hret v3 hrec30  S74 h h1
      · refine g_iconst (pc := 641) (v := 0) C dL_law_641 (by decide) ?_
        cases h
        cases h1
    replace h := ite_f h hq71
    by_cases hq76 : ((xs (Int32.toNatClampNeg v3)) &&& 31) = 15
    · replace h := ite_t h hq76
      refine g_swIn (pc := 45) (tgt := 643) C 15 hq76 dL_law_45 (by decide) (by decide) rfl (by decide) ?_
      refine g_aload_n (pc := 643) C dL_law_643 rfl 1 rfl ?_
      refine g_aload_n (pc := 644) C dL_law_644 rfl 0 rfl ?_
      refine g_iload_n (pc := 645) C dL_law_645 rfl 3 rfl ?_
      refine g_iconst (pc := 646) (v := 1) C dL_law_646 (by decide) ?_
      refine g_iadd (pc := 647) C dL_law_647 ?_
      refine g_sld (pc := 648) C hc h dL_law_648 (fun h => ?_)
      refine g_callV (pc := 649) C 0 (c_X11_sounding (Xl X) (Xb X) (xs (Int32.toNatClampNeg (v3 + 1))) S) (goodIn_mono wsL_law_in gL_law_X11_sounding) rfl rfl rfl hd_X11_sounding ⟨Nat.le_of_ble_eq_true rfl, Nat.le_of_ble_eq_true rfl⟩ (w_0 _ _) rfl rfl rfl (Nat.le_of_ble_eq_true rfl) dL_law_649 h (fun r78 S77 h => ?_)
      change G X _ S77 652 [(0, .ref sb), (1, .ref (ad X 0)), (2, .ref (ad X 12)), (3, .int v3)] [.int r78]
      refine g_aload_n (pc := 652) C dL_law_652 rfl 2 rfl ?_
      refine g_aload_n (pc := 653) C dL_law_653 rfl 0 rfl ?_
      refine g_iload_n (pc := 654) C dL_law_654 rfl 3 rfl ?_
      refine g_iconst (pc := 655) (v := 1) C dL_law_655 (by decide) ?_
      refine g_iadd (pc := 656) C dL_law_656 ?_
      refine g_sld (pc := 657) C hc h dL_law_657 (fun h => ?_)
      refine g_callV (pc := 658) C 12 (c_X12_sounding (Xl X) (Xb X) (xs (Int32.toNatClampNeg (v3 + 1))) S77) (goodIn_mono wsL_law_in gL_law_X12_sounding) rfl rfl rfl hd_X12_sounding ⟨Nat.le_of_ble_eq_true rfl, Nat.le_of_ble_eq_true rfl⟩ (w_12 _ _) rfl rfl rfl (Nat.le_of_ble_eq_true rfl) dL_law_658 h (fun r80 S79 h => ?_)
      change G X _ S79 661 [(0, .ref sb), (1, .ref (ad X 0)), (2, .ref (ad X 12)), (3, .int v3)] [.int r80, .int r78]
      refine g_icmp_eq (pc := 661) (tgt := 722) C h dL_law_661 (by decide) (fun h => ?_) (fun h => ?_)
      · refine g_weak (lv1 := [(0, .ref sb), (1, .ref (ad X 0)), (2, .ref (ad X 12)), (3, .int v3)]) [0, 1, 2, 3] rfl ?_
        exact s_L_law_b722 C hc hret v3 hrec30  S79 h h1
      · refine g_iconst (pc := 664) (v := 0) C dL_law_664 (by decide) ?_
        cases h
        cases h1
    replace h := ite_f h hq76
    by_cases hq81 : ((xs (Int32.toNatClampNeg v3)) &&& 31) = 16
    · replace h := ite_t h hq81
      refine g_swIn (pc := 45) (tgt := 666) C 16 hq81 dL_law_45 (by decide) (by decide) rfl (by decide) ?_
      refine g_aload_n (pc := 666) C dL_law_666 rfl 1 rfl ?_
      refine g_aload_n (pc := 667) C dL_law_667 rfl 0 rfl ?_
      refine g_iload_n (pc := 668) C dL_law_668 rfl 3 rfl ?_
      refine g_iconst (pc := 669) (v := 1) C dL_law_669 (by decide) ?_
      refine g_iadd (pc := 670) C dL_law_670 ?_
      refine g_sld (pc := 671) C hc h dL_law_671 (fun h => ?_)
      refine g_aload_n (pc := 672) C dL_law_672 rfl 0 rfl ?_
      refine g_iload_n (pc := 673) C dL_law_673 rfl 3 rfl ?_
      refine g_iconst (pc := 674) (v := 2) C dL_law_674 (by decide) ?_
      refine g_iadd (pc := 675) C dL_law_675 ?_
      refine g_sld (pc := 676) C hc h dL_law_676 (fun h => ?_)
      refine g_callV (pc := 677) C 0 (c_X11_span (Xl X) (Xb X) (xs (Int32.toNatClampNeg (v3 + 1))) (xs (Int32.toNatClampNeg (v3 + 2))) S) (goodIn_mono wsL_law_in gL_law_X11_span) rfl rfl rfl hd_X11_span ⟨Nat.le_of_ble_eq_true rfl, Nat.le_of_ble_eq_true rfl⟩ (w_0 _ _) rfl rfl rfl (Nat.le_of_ble_eq_true rfl) dL_law_677 h (fun r83 S82 h => ?_)
      change G X _ S82 680 [(0, .ref sb), (1, .ref (ad X 0)), (2, .ref (ad X 12)), (3, .int v3)] [.int r83]
      refine g_aload_n (pc := 680) C dL_law_680 rfl 2 rfl ?_
      refine g_aload_n (pc := 681) C dL_law_681 rfl 0 rfl ?_
      refine g_iload_n (pc := 682) C dL_law_682 rfl 3 rfl ?_
      refine g_iconst (pc := 683) (v := 1) C dL_law_683 (by decide) ?_
      refine g_iadd (pc := 684) C dL_law_684 ?_
      refine g_sld (pc := 685) C hc h dL_law_685 (fun h => ?_)
      refine g_aload_n (pc := 686) C dL_law_686 rfl 0 rfl ?_
      refine g_iload_n (pc := 687) C dL_law_687 rfl 3 rfl ?_
      refine g_iconst (pc := 688) (v := 2) C dL_law_688 (by decide) ?_
      refine g_iadd (pc := 689) C dL_law_689 ?_
      refine g_sld (pc := 690) C hc h dL_law_690 (fun h => ?_)
      refine g_callV (pc := 691) C 12 (c_X12_span (Xl X) (Xb X) (xs (Int32.toNatClampNeg (v3 + 1))) (xs (Int32.toNatClampNeg (v3 + 2))) S82) (goodIn_mono wsL_law_in gL_law_X12_span) rfl rfl rfl hd_X12_span ⟨Nat.le_of_ble_eq_true rfl, Nat.le_of_ble_eq_true rfl⟩ (w_12 _ _) rfl rfl rfl (Nat.le_of_ble_eq_true rfl) dL_law_691 h (fun r85 S84 h => ?_)
      change G X _ S84 694 [(0, .ref sb), (1, .ref (ad X 0)), (2, .ref (ad X 12)), (3, .int v3)] [.int r85, .int r83]
      refine g_icmp_eq (pc := 694) (tgt := 722) C h dL_law_694 (by decide) (fun h => ?_) (fun h => ?_)
      · refine g_weak (lv1 := [(0, .ref sb), (1, .ref (ad X 0)), (2, .ref (ad X 12)), (3, .int v3)]) [0, 1, 2, 3] rfl ?_
        exact s_L_law_b722 C hc hret v3 hrec30  S84 h h1
      · refine g_iconst (pc := 697) (v := 0) C dL_law_697 (by decide) ?_
        cases h
        cases h1
    replace h := ite_f h hq81
    by_cases hq86 : ((xs (Int32.toNatClampNeg v3)) &&& 31) = 17
    · replace h := ite_t h hq86
      refine g_swIn (pc := 45) (tgt := 699) C 17 hq86 dL_law_45 (by decide) (by decide) rfl (by decide) ?_
      refine g_aload_n (pc := 699) C dL_law_699 rfl 1 rfl ?_
      refine g_aload_n (pc := 700) C dL_law_700 rfl 0 rfl ?_
      refine g_iload_n (pc := 701) C dL_law_701 rfl 3 rfl ?_
      refine g_iconst (pc := 702) (v := 1) C dL_law_702 (by decide) ?_
      refine g_iadd (pc := 703) C dL_law_703 ?_
      refine g_sld (pc := 704) C hc h dL_law_704 (fun h => ?_)
      refine g_callV (pc := 705) C 0 (c_X11_count (Xl X) (Xb X) (xs (Int32.toNatClampNeg (v3 + 1))) S) (goodIn_mono wsL_law_in gL_law_X11_count) rfl rfl rfl hd_X11_count ⟨Nat.le_of_ble_eq_true rfl, Nat.le_of_ble_eq_true rfl⟩ (w_0 _ _) rfl rfl rfl (Nat.le_of_ble_eq_true rfl) dL_law_705 h (fun r88 S87 h => ?_)
      change G X _ S87 708 [(0, .ref sb), (1, .ref (ad X 0)), (2, .ref (ad X 12)), (3, .int v3)] [.int r88]
      refine g_aload_n (pc := 708) C dL_law_708 rfl 2 rfl ?_
      refine g_aload_n (pc := 709) C dL_law_709 rfl 0 rfl ?_
      refine g_iload_n (pc := 710) C dL_law_710 rfl 3 rfl ?_
      refine g_iconst (pc := 711) (v := 1) C dL_law_711 (by decide) ?_
      refine g_iadd (pc := 712) C dL_law_712 ?_
      refine g_sld (pc := 713) C hc h dL_law_713 (fun h => ?_)
      refine g_callV (pc := 714) C 12 (c_X12_count (Xl X) (Xb X) (xs (Int32.toNatClampNeg (v3 + 1))) S87) (goodIn_mono wsL_law_in gL_law_X12_count) rfl rfl rfl hd_X12_count ⟨Nat.le_of_ble_eq_true rfl, Nat.le_of_ble_eq_true rfl⟩ (w_12 _ _) rfl rfl rfl (Nat.le_of_ble_eq_true rfl) dL_law_714 h (fun r90 S89 h => ?_)
      change G X _ S89 717 [(0, .ref sb), (1, .ref (ad X 0)), (2, .ref (ad X 12)), (3, .int v3)] [.int r90, .int r88]
      refine g_icmp_eq (pc := 717) (tgt := 722) C h dL_law_717 (by decide) (fun h => ?_) (fun h => ?_)
      · refine g_weak (lv1 := [(0, .ref sb), (1, .ref (ad X 0)), (2, .ref (ad X 12)), (3, .int v3)]) [0, 1, 2, 3] rfl ?_
        exact s_L_law_b722 C hc hret v3 hrec30  S89 h h1
      · refine g_iconst (pc := 720) (v := 0) C dL_law_720 (by decide) ?_
        cases h
        cases h1
    replace h := ite_f h hq86
    refine g_swOut (pc := 45) (tgt := 722) C (sw_out_17 hq1 hq6 hq11 hq16 hq21 hq26 hq31 hq36 hq41 hq46 hq51 hq56 hq61 hq66 hq71 hq76 hq81 hq86) dL_law_45 (by decide) ?_
    refine g_weak (lv1 := [(0, .ref sb), (1, .ref (ad X 0)), (2, .ref (ad X 12)), (3, .int v3)]) [0, 1, 2, 3] rfl ?_
    exact s_L_law_b722 C hc hret v3 hrec30  S h h1
set_option maxRecDepth 100000 in
set_option maxHeartbeats 8000000 in
theorem s_L_law_l30 {X : MC} {Q : State → Prop} (C : Cx X cL_law RL lw_tbl 4 room_1 ret) {sb L : Nat} {xs : Nat → Int32} (hc : Scr X sb L xs) (hret : ∀ (S : St) (pc : Nat) (lv : List (Nat × Value)), decode cL_law pc = .ok (.ireturn, 1) → G X Q S pc lv [.int 1]) : ∀ (n : Nat) (s : Int32 × St) (r : Int32 × St), f_L_law_l30 L xs n s = some r → r.1 = 1 → G X Q s.2 30 [(0, .ref sb), (1, .ref (ad X 0)), (2, .ref (ad X 12)), (3, .int (s.1))] [] :=
  loop_sound (fun rec30 hrec30 s r h => s_L_law_b30 C hc hret s.1 hrec30 s.2 h)
set_option maxRecDepth 100000 in
set_option maxHeartbeats 8000000 in
theorem s_L_law_b28 {X : MC} {Q : State → Prop} (C : Cx X cL_law RL lw_tbl 4 room_1 ret) {sb L : Nat} {xs : Nat → Int32} (hc : Scr X sb L xs) (hret : ∀ (S : St) (pc : Nat) (lv : List (Nat × Value)), decode cL_law pc = .ok (.ireturn, 1) → G X Q S pc lv [.int 1]) (S : St) {r0 : Int32 × St} (h : f_L_law_b28 L xs S = some r0) : r0.1 = 1 → G X Q S 28 [(0, .ref sb), (1, .ref (ad X 0)), (2, .ref (ad X 12))] [] := by
  unfold f_L_law_b28 at h
  intro h1
  refine g_iconst (pc := 28) (v := 1) C dL_law_28 (by decide) ?_
  refine g_istore_n (pc := 29) C [(3, .int 1), (0, .ref sb), (1, .ref (ad X 0)), (2, .ref (ad X 12))] dL_law_29 rfl (Nat.le_of_ble_eq_true rfl) rfl ?_
  refine g_weak (lv1 := [(0, .ref sb), (1, .ref (ad X 0)), (2, .ref (ad X 12)), (3, .int 1)]) [1, 2, 3, 0] rfl ?_
  exact s_L_law_l30 C hc hret  _ (1, S) _ h h1
