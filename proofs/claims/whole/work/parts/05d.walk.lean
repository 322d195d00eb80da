set_option maxHeartbeats 4000000 in
set_option maxRecDepth 100000 in
theorem r_X6_play {l : Launch} {E : EV} {a : Nat → Nat} {o o1 : Nat} {c_keys : Nat → Int64} {c_seed c_r1_kind c_r1_set c_r1_key c_r1_other : Int32}  {R : (Nat → Int64) × Int32} (h : f_X6_play c_keys c_seed c_r1_kind c_r1_set c_r1_key c_r1_other = some R) : Ret1 l E yX6_play cX6_play 6 none 2 ((wX6 E a o c_keys c_seed) ++ (wX0 E a o1 c_r1_kind c_r1_set c_r1_key c_r1_other)) [.ref (a o), .ref (a o1)] none ((wX6 E a o R.1 R.2) ++ (wX0 E a o1 c_r1_kind c_r1_set c_r1_key c_r1_other)) := by
  refine Ret.intro (lv := [(0, .ref (a o)), (1, .ref (a o1))]) (by decide) (Nat.le_of_ble_eq_true rfl) rfl ?_
  intro g hgl G hQ
  subst hgl
  rw [f_X6_play] at h
  refine w_aload_n (pc2 := 1) G 0 rfl dX6_play_0 rfl rfl ?_
  refine w_get (pc2 := 4) G foX6_9 0 rfl rfl dX6_play_1 rfl ?_
  refine w_aload_n (pc2 := 5) G 1 rfl dX6_play_4 rfl rfl ?_
  refine w_get (pc2 := 8) G foX6_34 2 rfl rfl dX6_play_5 rfl ?_
  obtain ⟨v1, H_v1, h⟩ := bs h
  refine w_laldo (pc2 := 9) G 1 rfl H_v1 dX6_play_8 rfl ?_
  refine w_lstore_n (pc2 := 10) (lv2 := [(2, .long v1), (0, .ref (a o)), (1, .ref (a o1))]) G dX6_play_9 rfl (Nat.le_of_ble_eq_true rfl) rfl rfl ?_
  refine w_aload_n (pc2 := 11) G 1 rfl dX6_play_10 rfl rfl ?_
  refine w_get (pc2 := 14) G foX6_9 0 rfl rfl dX6_play_11 rfl ?_
  refine w_aload_n (pc2 := 15) G 2 rfl dX6_play_14 rfl rfl ?_
  refine w_get (pc2 := 18) G foX6_44 2 rfl rfl dX6_play_15 rfl ?_
  obtain ⟨v2, H_v2, h⟩ := bs h
  refine w_laldo (pc2 := 19) G 1 rfl H_v2 dX6_play_18 rfl ?_
  refine w_lstore (pc2 := 21) (lv2 := [(4, .long v2), (2, .long v1), (0, .ref (a o)), (1, .ref (a o1))]) G dX6_play_19 (Nat.le_of_ble_eq_true rfl) rfl rfl ?_
  refine w_aload_n (pc2 := 22) G 3 rfl dX6_play_21 rfl rfl ?_
  refine w_get (pc2 := 25) G foX6_29 2 rfl rfl dX6_play_22 rfl ?_
  by_cases sdX6_play_25_0 : c_r1_kind = (38 : Int32)
  · replace h := (if_pos sdX6_play_25_0).symm.trans h
    refine w_look (tgt := 181) G dX6_play_25 (by decide) (by rw [sdX6_play_25_0] <;> rfl) (by decide) ?_
    refine w_aload_n (pc2 := 182) G 2 rfl dX6_play_181 rfl rfl ?_
    refine w_get (pc2 := 185) G foX6_9 0 rfl rfl dX6_play_182 rfl ?_
    refine w_aload_n (pc2 := 186) G 3 rfl dX6_play_185 rfl rfl ?_
    refine w_get (pc2 := 189) G foX6_34 2 rfl rfl dX6_play_186 rfl ?_
    refine w_lload_n (pc2 := 190) G 1 rfl dX6_play_189 rfl rfl ?_
    refine w_lload (pc2 := 192) G 0 rfl dX6_play_190 rfl ?_
    refine w_lor (pc2 := 193) G dX6_play_192 rfl ?_
    obtain ⟨f3, H_f3, h⟩ := bs h
    refine w_lasto (pc2 := 194) (ws2 := ((wX6 E a o f3 c_seed) ++ (wX0 E a o1 c_r1_kind c_r1_set c_r1_key c_r1_other))) G 1 rfl H_f3 rfl dX6_play_193 rfl ?_
    refine w_aload_n (pc2 := 195) G 2 rfl dX6_play_194 rfl rfl ?_
    refine w_get (pc2 := 198) G foX6_9 0 rfl rfl dX6_play_195 rfl ?_
    refine w_aload_n (pc2 := 199) G 3 rfl dX6_play_198 rfl rfl ?_
    refine w_get (pc2 := 202) G foX6_44 2 rfl rfl dX6_play_199 rfl ?_
    refine w_lconst (pc2 := 203) G dX6_play_202 k_lconst_0 rfl ?_
    obtain ⟨f4, H_f4, h⟩ := bs h
    refine w_lasto (pc2 := 204) (ws2 := ((wX6 E a o f4 c_seed) ++ (wX0 E a o1 c_r1_kind c_r1_set c_r1_key c_r1_other))) G 1 rfl H_f4 rfl dX6_play_203 rfl ?_
    refine w_goto (tgt := 267) G dX6_play_204 (by decide) ?_
    cases h
    exact w_vret G hQ rfl ⟨rfl, rfl⟩ dX6_play_267
  replace h := (if_neg sdX6_play_25_0).symm.trans h
  by_cases sdX6_play_25_1 : c_r1_kind = (43 : Int32)
  · replace h := (if_pos sdX6_play_25_1).symm.trans h
    refine w_look (tgt := 92) G dX6_play_25 (by decide) (by rw [sdX6_play_25_1] <;> rfl) (by decide) ?_
    refine w_aload_n (pc2 := 93) G 2 rfl dX6_play_92 rfl rfl ?_
    refine w_get (pc2 := 96) G foX6_9 0 rfl rfl dX6_play_93 rfl ?_
    refine w_aload_n (pc2 := 97) G 3 rfl dX6_play_96 rfl rfl ?_
    refine w_get (pc2 := 100) G foX6_34 2 rfl rfl dX6_play_97 rfl ?_
    refine w_lload_n (pc2 := 101) G 1 rfl dX6_play_100 rfl rfl ?_
    refine w_aload_n (pc2 := 102) G 3 rfl dX6_play_101 rfl rfl ?_
    refine w_get (pc2 := 105) G foX6_37 2 rfl rfl dX6_play_102 rfl ?_
    obtain ⟨x5, H_x5, h⟩ := bs h
    refine w_cS0N (pc2 := 108) (As := [.int c_r1_key]) (rest := [.long v1, .int c_r1_set, .ref (a (o + 1))]) G koX6_55 (r_X7_bit H_x5) (Nat.le_of_ble_eq_true rfl) rfl rfl (Nat.le_of_ble_eq_true rfl) ⟨Nat.zero_le _, Nat.zero_le _⟩ dX6_play_105 rfl rfl ?_
    refine w_lor (pc2 := 109) G dX6_play_108 rfl ?_
    obtain ⟨f6, H_f6, h⟩ := bs h
    refine w_lasto (pc2 := 110) (ws2 := ((wX6 E a o f6 c_seed) ++ (wX0 E a o1 c_r1_kind c_r1_set c_r1_key c_r1_other))) G 1 rfl H_f6 rfl dX6_play_109 rfl ?_
    refine w_goto (tgt := 267) G dX6_play_110 (by decide) ?_
    cases h
    exact w_vret G hQ rfl ⟨rfl, rfl⟩ dX6_play_267
  replace h := (if_neg sdX6_play_25_1).symm.trans h
  by_cases sdX6_play_25_2 : c_r1_kind = (45 : Int32)
  · replace h := (if_pos sdX6_play_25_2).symm.trans h
    refine w_look (tgt := 113) G dX6_play_25 (by decide) (by rw [sdX6_play_25_2] <;> rfl) (by decide) ?_
    refine w_aload_n (pc2 := 114) G 2 rfl dX6_play_113 rfl rfl ?_
    refine w_get (pc2 := 117) G foX6_9 0 rfl rfl dX6_play_114 rfl ?_
    refine w_aload_n (pc2 := 118) G 3 rfl dX6_play_117 rfl rfl ?_
    refine w_get (pc2 := 121) G foX6_34 2 rfl rfl dX6_play_118 rfl ?_
    refine w_lload_n (pc2 := 122) G 1 rfl dX6_play_121 rfl rfl ?_
    refine w_aload_n (pc2 := 123) G 3 rfl dX6_play_122 rfl rfl ?_
    refine w_get (pc2 := 126) G foX6_37 2 rfl rfl dX6_play_123 rfl ?_
    obtain ⟨x7, H_x7, h⟩ := bs h
    refine w_cS0N (pc2 := 129) (As := [.int c_r1_key]) (rest := [.long v1, .int c_r1_set, .ref (a (o + 1))]) G koX6_55 (r_X7_bit H_x7) (Nat.le_of_ble_eq_true rfl) rfl rfl (Nat.le_of_ble_eq_true rfl) ⟨Nat.zero_le _, Nat.zero_le _⟩ dX6_play_126 rfl rfl ?_
    refine w_ldc2 (pc2 := 132) G wd_76 dX6_play_129 rfl ?_
    refine w_lxor (pc2 := 133) G dX6_play_132 rfl ?_
    refine w_land (pc2 := 134) G dX6_play_133 rfl ?_
    obtain ⟨f8, H_f8, h⟩ := bs h
    refine w_lasto (pc2 := 135) (ws2 := ((wX6 E a o f8 c_seed) ++ (wX0 E a o1 c_r1_kind c_r1_set c_r1_key c_r1_other))) G 1 rfl H_f8 rfl dX6_play_134 rfl ?_
    refine w_goto (tgt := 267) G dX6_play_135 (by decide) ?_
    cases h
    exact w_vret G hQ rfl ⟨rfl, rfl⟩ dX6_play_267
  replace h := (if_neg sdX6_play_25_2).symm.trans h
  by_cases sdX6_play_25_3 : c_r1_kind = (47 : Int32)
  · replace h := (if_pos sdX6_play_25_3).symm.trans h
    refine w_look (tgt := 138) G dX6_play_25 (by decide) (by rw [sdX6_play_25_3] <;> rfl) (by decide) ?_
    refine w_aload_n (pc2 := 139) G 2 rfl dX6_play_138 rfl rfl ?_
    refine w_get (pc2 := 142) G foX6_9 0 rfl rfl dX6_play_139 rfl ?_
    refine w_aload_n (pc2 := 143) G 3 rfl dX6_play_142 rfl rfl ?_
    refine w_get (pc2 := 146) G foX6_34 2 rfl rfl dX6_play_143 rfl ?_
    refine w_lload_n (pc2 := 147) G 1 rfl dX6_play_146 rfl rfl ?_
    refine w_aload_n (pc2 := 148) G 3 rfl dX6_play_147 rfl rfl ?_
    refine w_get (pc2 := 151) G foX6_37 2 rfl rfl dX6_play_148 rfl ?_
    obtain ⟨x9, H_x9, h⟩ := bs h
    refine w_cS0N (pc2 := 154) (As := [.int c_r1_key]) (rest := [.long v1, .int c_r1_set, .ref (a (o + 1))]) G koX6_61 (r_X7_less H_x9) (Nat.le_of_ble_eq_true rfl) rfl rfl (Nat.le_of_ble_eq_true rfl) ⟨Nat.zero_le _, Nat.zero_le _⟩ dX6_play_151 rfl rfl ?_
    refine w_land (pc2 := 155) G dX6_play_154 rfl ?_
    obtain ⟨f10, H_f10, h⟩ := bs h
    refine w_lasto (pc2 := 156) (ws2 := ((wX6 E a o f10 c_seed) ++ (wX0 E a o1 c_r1_kind c_r1_set c_r1_key c_r1_other))) G 1 rfl H_f10 rfl dX6_play_155 rfl ?_
    refine w_aload_n (pc2 := 157) G 2 rfl dX6_play_156 rfl rfl ?_
    refine w_get (pc2 := 160) G foX6_9 0 rfl rfl dX6_play_157 rfl ?_
    refine w_aload_n (pc2 := 161) G 3 rfl dX6_play_160 rfl rfl ?_
    refine w_get (pc2 := 164) G foX6_44 2 rfl rfl dX6_play_161 rfl ?_
    refine w_lload_n (pc2 := 165) G 1 rfl dX6_play_164 rfl rfl ?_
    refine w_aload_n (pc2 := 166) G 3 rfl dX6_play_165 rfl rfl ?_
    refine w_get (pc2 := 169) G foX6_37 2 rfl rfl dX6_play_166 rfl ?_
    obtain ⟨x11, H_x11, h⟩ := bs h
    refine w_cS0N (pc2 := 172) (As := [.int c_r1_key]) (rest := [.long v1, .int c_r1_other, .ref (a (o + 1))]) G koX6_61 (r_X7_less H_x11) (Nat.le_of_ble_eq_true rfl) rfl rfl (Nat.le_of_ble_eq_true rfl) ⟨Nat.zero_le _, Nat.zero_le _⟩ dX6_play_169 rfl rfl ?_
    refine w_ldc2 (pc2 := 175) G wd_76 dX6_play_172 rfl ?_
    refine w_lxor (pc2 := 176) G dX6_play_175 rfl ?_
    refine w_land (pc2 := 177) G dX6_play_176 rfl ?_
    obtain ⟨f12, H_f12, h⟩ := bs h
    refine w_lasto (pc2 := 178) (ws2 := ((wX6 E a o f12 c_seed) ++ (wX0 E a o1 c_r1_kind c_r1_set c_r1_key c_r1_other))) G 1 rfl H_f12 rfl dX6_play_177 rfl ?_
    refine w_goto (tgt := 267) G dX6_play_178 (by decide) ?_
    cases h
    exact w_vret G hQ rfl ⟨rfl, rfl⟩ dX6_play_267
  replace h := (if_neg sdX6_play_25_3).symm.trans h
  by_cases sdX6_play_25_4 : c_r1_kind = (61 : Int32)
  · replace h := (if_pos sdX6_play_25_4).symm.trans h
    refine w_look (tgt := 207) G dX6_play_25 (by decide) (by rw [sdX6_play_25_4] <;> rfl) (by decide) ?_
    refine w_aload_n (pc2 := 208) G 2 rfl dX6_play_207 rfl rfl ?_
    refine w_get (pc2 := 211) G foX6_9 0 rfl rfl dX6_play_208 rfl ?_
    refine w_aload_n (pc2 := 212) G 3 rfl dX6_play_211 rfl rfl ?_
    refine w_get (pc2 := 215) G foX6_34 2 rfl rfl dX6_play_212 rfl ?_
    refine w_lload (pc2 := 217) G 0 rfl dX6_play_215 rfl ?_
    obtain ⟨f13, H_f13, h⟩ := bs h
    refine w_lasto (pc2 := 218) (ws2 := ((wX6 E a o f13 c_seed) ++ (wX0 E a o1 c_r1_kind c_r1_set c_r1_key c_r1_other))) G 1 rfl H_f13 rfl dX6_play_217 rfl ?_
    refine w_goto (tgt := 267) G dX6_play_218 (by decide) ?_
    cases h
    exact w_vret G hQ rfl ⟨rfl, rfl⟩ dX6_play_267
  replace h := (if_neg sdX6_play_25_4).symm.trans h
  by_cases sdX6_play_25_5 : c_r1_kind = (124 : Int32)
  · replace h := (if_pos sdX6_play_25_5).symm.trans h
    refine w_look (tgt := 221) G dX6_play_25 (by decide) (by rw [sdX6_play_25_5] <;> rfl) (by decide) ?_
    refine w_aload_n (pc2 := 222) G 2 rfl dX6_play_221 rfl rfl ?_
    refine w_get (pc2 := 225) G foX6_9 0 rfl rfl dX6_play_222 rfl ?_
    refine w_aload_n (pc2 := 226) G 3 rfl dX6_play_225 rfl rfl ?_
    refine w_get (pc2 := 229) G foX6_34 2 rfl rfl dX6_play_226 rfl ?_
    refine w_lload_n (pc2 := 230) G 1 rfl dX6_play_229 rfl rfl ?_
    refine w_lload (pc2 := 232) G 0 rfl dX6_play_230 rfl ?_
    refine w_lor (pc2 := 233) G dX6_play_232 rfl ?_
    obtain ⟨f14, H_f14, h⟩ := bs h
    refine w_lasto (pc2 := 234) (ws2 := ((wX6 E a o f14 c_seed) ++ (wX0 E a o1 c_r1_kind c_r1_set c_r1_key c_r1_other))) G 1 rfl H_f14 rfl dX6_play_233 rfl ?_
    refine w_goto (tgt := 267) G dX6_play_234 (by decide) ?_
    cases h
    exact w_vret G hQ rfl ⟨rfl, rfl⟩ dX6_play_267
  replace h := (if_neg sdX6_play_25_5).symm.trans h
  by_cases sdX6_play_25_6 : c_r1_kind = (126 : Int32)
  · replace h := (if_pos sdX6_play_25_6).symm.trans h
    refine w_look (tgt := 237) G dX6_play_25 (by decide) (by rw [sdX6_play_25_6] <;> rfl) (by decide) ?_
    refine w_aload_n (pc2 := 238) G 2 rfl dX6_play_237 rfl rfl ?_
    refine w_get (pc2 := 241) G foX6_9 0 rfl rfl dX6_play_238 rfl ?_
    refine w_aload_n (pc2 := 242) G 3 rfl dX6_play_241 rfl rfl ?_
    refine w_get (pc2 := 245) G foX6_34 2 rfl rfl dX6_play_242 rfl ?_
    refine w_lload_n (pc2 := 246) G 1 rfl dX6_play_245 rfl rfl ?_
    refine w_lload (pc2 := 248) G 0 rfl dX6_play_246 rfl ?_
    refine w_ldc2 (pc2 := 251) G wd_76 dX6_play_248 rfl ?_
    refine w_lxor (pc2 := 252) G dX6_play_251 rfl ?_
    refine w_land (pc2 := 253) G dX6_play_252 rfl ?_
    obtain ⟨f15, H_f15, h⟩ := bs h
    refine w_lasto (pc2 := 254) (ws2 := ((wX6 E a o f15 c_seed) ++ (wX0 E a o1 c_r1_kind c_r1_set c_r1_key c_r1_other))) G 1 rfl H_f15 rfl dX6_play_253 rfl ?_
    refine w_goto (tgt := 267) G dX6_play_254 (by decide) ?_
    cases h
    exact w_vret G hQ rfl ⟨rfl, rfl⟩ dX6_play_267
  replace h := (if_neg sdX6_play_25_6).symm.trans h
  refine w_look (tgt := 257) G dX6_play_25 (by decide) (look_out (by have e0 := ne_ti sdX6_play_25_0; have e1 := ne_ti sdX6_play_25_1; have e2 := ne_ti sdX6_play_25_2; have e3 := ne_ti sdX6_play_25_3; have e4 := ne_ti sdX6_play_25_4; have e5 := ne_ti sdX6_play_25_5; have e6 := ne_ti sdX6_play_25_6; simp only [List.all_cons, List.all_nil, Bool.and_true, Bool.and_eq_true, decide_eq_true_eq]; exact ⟨e0, e1, e2, e3, e4, e5, e6⟩)) (by decide) ?_
  refine w_aload_n (pc2 := 258) G 2 rfl dX6_play_257 rfl rfl ?_
  refine w_dup (pc2 := 259) G dX6_play_258 rfl rfl ?_
  refine w_get (pc2 := 262) G foX6_21 0 rfl rfl dX6_play_259 rfl ?_
  refine w_iconst (pc2 := 263) G dX6_play_262 k_iconst_1 rfl ?_
  refine w_iadd (pc2 := 264) G dX6_play_263 rfl ?_
  refine w_put (pc2 := 267) (ws2 := ((wX6 E a o c_keys (c_seed + (1 : Int32))) ++ (wX0 E a o1 c_r1_kind c_r1_set c_r1_key c_r1_other))) G foX6_21 tokX6 0 rfl rfl rfl rfl (Nat.le_of_ble_eq_true rfl) rfl dX6_play_264 rfl ?_
  cases h
  exact w_vret G hQ rfl ⟨rfl, rfl⟩ dX6_play_267

set_option maxHeartbeats 4000000 in
set_option maxRecDepth 100000 in
theorem lp_X5_addWork_97 {g : CX} {E : EV} {a : Nat → Nat} {o : Nat} {c_act_kind c_act_set c_act_key c_act_other : Int32} {c_tb_left c_tb_right c_tb_parent : Nat → Int32} {c_tb_root : Int32} {c_tb_digest c_tb_height c_tb_priority : Nat → Int32} {c_tb_pricedBy : Int32} {c_tb_open c_ta_left c_ta_right c_ta_parent : Nat → Int32} {c_ta_root : Int32} {c_ta_digest c_ta_height c_ta_priority : Nat → Int32} {c_ta_pricedBy : Int32} {c_ta_open : Nat → Int32} {c_after_seed : Int32} {c_before_keys : Nat → Int64} {c_before_seed c_acts c_whyNot c_alikeAct c_alikePair : Int32}  (G : GG g E RX5 cX5_addWork 3 none 3 0 0) : ∀ (n : Nat) (c_tb_span : Nat → Int64) (c_ta_span : Nat → Int64) (c_after_keys : Nat → Int64) (c_work : Int32) (l1 : Int32) (l2 : Int32) (R : Int32), L_X5_addWork_97 n c_tb_span c_ta_span c_after_keys c_work l1 l2 = some R → WW g E 3 0 0 (wX5 E a o c_act_kind c_act_set c_act_key c_act_other c_tb_left c_tb_right c_tb_parent c_tb_span c_tb_root c_tb_digest c_tb_height c_tb_priority c_tb_pricedBy c_tb_open c_ta_left c_ta_right c_ta_parent c_ta_span c_ta_root c_ta_digest c_ta_height c_ta_priority c_ta_pricedBy c_ta_open c_after_keys c_after_seed c_before_keys c_before_seed c_acts c_whyNot R c_alikeAct c_alikePair) [(0, .ref (a o)), (1, .int l1)] 157 [] → WW g E 3 0 0 (wX5 E a o c_act_kind c_act_set c_act_key c_act_other c_tb_left c_tb_right c_tb_parent c_tb_span c_tb_root c_tb_digest c_tb_height c_tb_priority c_tb_pricedBy c_tb_open c_ta_left c_ta_right c_ta_parent c_ta_span c_ta_root c_ta_digest c_ta_height c_ta_priority c_ta_pricedBy c_ta_open c_after_keys c_after_seed c_before_keys c_before_seed c_acts c_whyNot c_work c_alikeAct c_alikePair) [(0, .ref (a o)), (1, .int l1), (2, .int l2)] 97 [] := by
  intro n
  induction n with
  | zero => intro c_tb_span c_ta_span c_after_keys c_work l1 l2 R h; exact no_some h
  | succ n ih =>
    intro c_tb_span c_ta_span c_after_keys c_work l1 l2 R h K
    rw [L_X5_addWork_97] at h
    refine w_iload_n (pc2 := 98) G 2 rfl dX5_addWork_97 rfl rfl ?_
    refine w_bipush (pc2 := 100) G dX5_addWork_98 k_bipush_50 rfl ?_
    refine w_icmp_ge (tgt := 157) (pc2 := 103) G dX5_addWork_100 (by decide) rfl (fun cc => ?_) (fun cc => ?_)
    · replace h := (if_pos cc).symm.trans h
      cases h
      exact w_lv [0, 1] rfl K
    · replace h := (if_neg cc).symm.trans h
      refine w_aload_n (pc2 := 104) G 0 rfl dX5_addWork_103 rfl rfl ?_
      refine w_get (pc2 := 107) G foX5_31 0 rfl rfl dX5_addWork_104 rfl ?_
      refine w_get (pc2 := 110) G foX5_86 20 rfl rfl dX5_addWork_107 rfl ?_
      refine w_iload_n (pc2 := 111) G 1 rfl dX5_addWork_110 rfl rfl ?_
      obtain ⟨v1, H_v1, h⟩ := bs h
      refine w_laldo (pc2 := 112) G 21 rfl H_v1 dX5_addWork_111 rfl ?_
      refine w_iload_n (pc2 := 113) G 2 rfl dX5_addWork_112 rfl rfl ?_
      obtain ⟨x2, H_x2, h⟩ := bs h
      refine w_cS0N (pc2 := 116) (As := [.long v1, .int l2]) (rest := []) G koX5_97 (r_X7_isIn H_x2) (Nat.le_of_ble_eq_true rfl) rfl rfl (Nat.le_of_ble_eq_true rfl) ⟨Nat.zero_le _, Nat.zero_le _⟩ dX5_addWork_113 rfl rfl ?_
      refine w_if_eq (tgt := 151) (pc2 := 119) G dX5_addWork_116 (by decide) rfl (fun cc => ?_) (fun cc => ?_)
      · replace h := (if_pos cc).symm.trans h
        refine w_iinc (pc2 := 154) (lv2 := [(2, .int (l2 + (1 : Int32))), (0, .ref (a o)), (1, .int l1)]) G 2 rfl dX5_addWork_151 k_iconst_1 (Nat.le_of_ble_eq_true rfl) rfl rfl ?_
        refine w_goto (tgt := 97) G dX5_addWork_154 (by decide) ?_
        exact w_lv [1, 2, 0] rfl (ih _ _ _ _ _ _ _ h K)
      · replace h := (if_neg cc).symm.trans h
        refine w_aload_n (pc2 := 120) G 0 rfl dX5_addWork_119 rfl rfl ?_
        refine w_get (pc2 := 123) G foX5_21 0 rfl rfl dX5_addWork_120 rfl ?_
        refine w_get (pc2 := 126) G foX5_101 2 rfl rfl dX5_addWork_123 rfl ?_
        refine w_iload_n (pc2 := 127) G 2 rfl dX5_addWork_126 rfl rfl ?_
        obtain ⟨v3, H_v3, h⟩ := bs h
        refine w_laldo (pc2 := 128) G 6 rfl H_v3 dX5_addWork_127 rfl ?_
        refine w_aload_n (pc2 := 129) G 0 rfl dX5_addWork_128 rfl rfl ?_
        refine w_get (pc2 := 132) G foX5_25 0 rfl rfl dX5_addWork_129 rfl ?_
        refine w_get (pc2 := 135) G foX5_101 11 rfl rfl dX5_addWork_132 rfl ?_
        refine w_iload_n (pc2 := 136) G 2 rfl dX5_addWork_135 rfl rfl ?_
        obtain ⟨v4, H_v4, h⟩ := bs h
        refine w_laldo (pc2 := 137) G 15 rfl H_v4 dX5_addWork_136 rfl ?_
        refine w_lcmp (pc2 := 138) G dX5_addWork_137 rfl ?_
        refine w_if_eq (tgt := 151) (pc2 := 141) G dX5_addWork_138 (by decide) rfl (fun cc => ?_) (fun cc => ?_)
        · replace h := (if_pos cc).symm.trans h
          refine w_iinc (pc2 := 154) (lv2 := [(2, .int (l2 + (1 : Int32))), (0, .ref (a o)), (1, .int l1)]) G 2 rfl dX5_addWork_151 k_iconst_1 (Nat.le_of_ble_eq_true rfl) rfl rfl ?_
          refine w_goto (tgt := 97) G dX5_addWork_154 (by decide) ?_
          exact w_lv [1, 2, 0] rfl (ih _ _ _ _ _ _ _ h K)
        · replace h := (if_neg cc).symm.trans h
          refine w_aload_n (pc2 := 142) G 0 rfl dX5_addWork_141 rfl rfl ?_
          refine w_dup (pc2 := 143) G dX5_addWork_142 rfl rfl ?_
          refine w_get (pc2 := 146) G foX5_46 0 rfl rfl dX5_addWork_143 rfl ?_
          refine w_iconst (pc2 := 147) G dX5_addWork_146 k_iconst_1 rfl ?_
          refine w_iadd (pc2 := 148) G dX5_addWork_147 rfl ?_
          refine w_put (pc2 := 151) (ws2 := (wX5 E a o c_act_kind c_act_set c_act_key c_act_other c_tb_left c_tb_right c_tb_parent c_tb_span c_tb_root c_tb_digest c_tb_height c_tb_priority c_tb_pricedBy c_tb_open c_ta_left c_ta_right c_ta_parent c_ta_span c_ta_root c_ta_digest c_ta_height c_ta_priority c_ta_pricedBy c_ta_open c_after_keys c_after_seed c_before_keys c_before_seed c_acts c_whyNot (c_work + (1 : Int32)) c_alikeAct c_alikePair)) G foX5_46 tokX5 0 rfl rfl rfl rfl (Nat.le_of_ble_eq_true rfl) rfl dX5_addWork_148 rfl ?_
          refine w_iinc (pc2 := 154) (lv2 := [(2, .int (l2 + (1 : Int32))), (0, .ref (a o)), (1, .int l1)]) G 2 rfl dX5_addWork_151 k_iconst_1 (Nat.le_of_ble_eq_true rfl) rfl rfl ?_
          refine w_goto (tgt := 97) G dX5_addWork_154 (by decide) ?_
          exact w_lv [1, 2, 0] rfl (ih _ _ _ _ _ _ _ h K)
set_option maxHeartbeats 4000000 in
set_option maxRecDepth 100000 in
theorem lp_X5_addWork_2 {g : CX} {E : EV} {a : Nat → Nat} {o : Nat} {c_act_kind c_act_set c_act_key c_act_other c_acts c_whyNot c_alikeAct c_alikePair : Int32}  (G : GG g E RX5 cX5_addWork 3 none 3 0 0) : ∀ (n : Nat) (c_tb_left : Nat → Int32) (c_tb_right : Nat → Int32) (c_tb_parent : Nat → Int32) (c_tb_span : Nat → Int64) (c_tb_root : Int32) (c_tb_digest : Nat → Int32) (c_tb_height : Nat → Int32) (c_tb_priority : Nat → Int32) (c_tb_pricedBy : Int32) (c_tb_open : Nat → Int32) (c_ta_left : Nat → Int32) (c_ta_right : Nat → Int32) (c_ta_parent : Nat → Int32) (c_ta_span : Nat → Int64) (c_ta_root : Int32) (c_ta_digest : Nat → Int32) (c_ta_height : Nat → Int32) (c_ta_priority : Nat → Int32) (c_ta_pricedBy : Int32) (c_ta_open : Nat → Int32) (c_after_keys : Nat → Int64) (c_after_seed : Int32) (c_before_keys : Nat → Int64) (c_before_seed : Int32) (c_work : Int32) (l1 : Int32) (R : (Nat → Int32) × (Nat → Int32) × (Nat → Int32) × (Nat → Int64) × Int32 × (Nat → Int32) × (Nat → Int32) × (Nat → Int32) × Int32 × (Nat → Int32) × (Nat → Int32) × (Nat → Int32) × (Nat → Int32) × (Nat → Int64) × Int32 × (Nat → Int32) × (Nat → Int32) × (Nat → Int32) × Int32 × (Nat → Int32) × Int32), L_X5_addWork_2 n c_tb_left c_tb_right c_tb_parent c_tb_span c_tb_root c_tb_digest c_tb_height c_tb_priority c_tb_pricedBy c_tb_open c_ta_left c_ta_right c_ta_parent c_ta_span c_ta_root c_ta_digest c_ta_height c_ta_priority c_ta_pricedBy c_ta_open c_after_keys c_after_seed c_before_keys c_before_seed c_work l1 = some R → WW g E 3 0 0 (wX5 E a o c_act_kind c_act_set c_act_key c_act_other R.1 R.2.1 R.2.2.1 R.2.2.2.1 R.2.2.2.2.1 R.2.2.2.2.2.1 R.2.2.2.2.2.2.1 R.2.2.2.2.2.2.2.1 R.2.2.2.2.2.2.2.2.1 R.2.2.2.2.2.2.2.2.2.1 R.2.2.2.2.2.2.2.2.2.2.1 R.2.2.2.2.2.2.2.2.2.2.2.1 R.2.2.2.2.2.2.2.2.2.2.2.2.1 R.2.2.2.2.2.2.2.2.2.2.2.2.2.1 R.2.2.2.2.2.2.2.2.2.2.2.2.2.2.1 R.2.2.2.2.2.2.2.2.2.2.2.2.2.2.2.1 R.2.2.2.2.2.2.2.2.2.2.2.2.2.2.2.2.1 R.2.2.2.2.2.2.2.2.2.2.2.2.2.2.2.2.2.1 R.2.2.2.2.2.2.2.2.2.2.2.2.2.2.2.2.2.2.1 R.2.2.2.2.2.2.2.2.2.2.2.2.2.2.2.2.2.2.2.1 c_after_keys c_after_seed c_before_keys c_before_seed c_acts c_whyNot R.2.2.2.2.2.2.2.2.2.2.2.2.2.2.2.2.2.2.2.2 c_alikeAct c_alikePair) [] 163 [] → WW g E 3 0 0 (wX5 E a o c_act_kind c_act_set c_act_key c_act_other c_tb_left c_tb_right c_tb_parent c_tb_span c_tb_root c_tb_digest c_tb_height c_tb_priority c_tb_pricedBy c_tb_open c_ta_left c_ta_right c_ta_parent c_ta_span c_ta_root c_ta_digest c_ta_height c_ta_priority c_ta_pricedBy c_ta_open c_after_keys c_after_seed c_before_keys c_before_seed c_acts c_whyNot c_work c_alikeAct c_alikePair) [(0, .ref (a o)), (1, .int l1)] 2 [] := by
  intro n
  induction n with
  | zero => intro c_tb_left c_tb_right c_tb_parent c_tb_span c_tb_root c_tb_digest c_tb_height c_tb_priority c_tb_pricedBy c_tb_open c_ta_left c_ta_right c_ta_parent c_ta_span c_ta_root c_ta_digest c_ta_height c_ta_priority c_ta_pricedBy c_ta_open c_after_keys c_after_seed c_before_keys c_before_seed c_work l1 R h; exact no_some h
  | succ n ih =>
    intro c_tb_left c_tb_right c_tb_parent c_tb_span c_tb_root c_tb_digest c_tb_height c_tb_priority c_tb_pricedBy c_tb_open c_ta_left c_ta_right c_ta_parent c_ta_span c_ta_root c_ta_digest c_ta_height c_ta_priority c_ta_pricedBy c_ta_open c_after_keys c_after_seed c_before_keys c_before_seed c_work l1 R h K
    rw [L_X5_addWork_2] at h
    refine w_iload_n (pc2 := 3) G 1 rfl dX5_addWork_2 rfl rfl ?_
    refine w_iconst (pc2 := 4) G dX5_addWork_3 k_iconst_4 rfl ?_
    refine w_icmp_ge (tgt := 163) (pc2 := 7) G dX5_addWork_4 (by decide) rfl (fun cc => ?_) (fun cc => ?_)
    · replace h := (if_pos cc).symm.trans h
      cases h
      exact w_lv [] rfl K
    · replace h := (if_neg cc).symm.trans h
      refine w_aload_n (pc2 := 8) G 0 rfl dX5_addWork_7 rfl rfl ?_
      refine w_get (pc2 := 11) G foX5_35 0 rfl rfl dX5_addWork_8 rfl ?_
      refine w_get (pc2 := 14) G foX5_86 22 rfl rfl dX5_addWork_11 rfl ?_
      refine w_iload_n (pc2 := 15) G 1 rfl dX5_addWork_14 rfl rfl ?_
      obtain ⟨v1, H_v1, h⟩ := bs h
      refine w_laldo (pc2 := 16) G 23 rfl H_v1 dX5_addWork_15 rfl ?_
      refine w_aload_n (pc2 := 17) G 0 rfl dX5_addWork_16 rfl rfl ?_
      refine w_get (pc2 := 20) G foX5_31 0 rfl rfl dX5_addWork_17 rfl ?_
      refine w_get (pc2 := 23) G foX5_86 20 rfl rfl dX5_addWork_20 rfl ?_
      refine w_iload_n (pc2 := 24) G 1 rfl dX5_addWork_23 rfl rfl ?_
      obtain ⟨v2, H_v2, h⟩ := bs h
      refine w_laldo (pc2 := 25) G 21 rfl H_v2 dX5_addWork_24 rfl ?_
      refine w_lcmp (pc2 := 26) G dX5_addWork_25 rfl ?_
      refine w_if_ne (tgt := 49) (pc2 := 29) G dX5_addWork_26 (by decide) rfl (fun cc => ?_) (fun cc => ?_)
      · replace h := (if_neg cc).symm.trans h
        refine w_aload_n (pc2 := 50) G 0 rfl dX5_addWork_49 rfl rfl ?_
        refine w_get (pc2 := 53) G foX5_21 0 rfl rfl dX5_addWork_50 rfl ?_
        refine w_aload_n (pc2 := 54) G 0 rfl dX5_addWork_53 rfl rfl ?_
        refine w_get (pc2 := 57) G foX5_35 0 rfl rfl dX5_addWork_54 rfl ?_
        refine w_get (pc2 := 60) G foX5_86 22 rfl rfl dX5_addWork_57 rfl ?_
        refine w_iload_n (pc2 := 61) G 1 rfl dX5_addWork_60 rfl rfl ?_
        obtain ⟨v3, H_v3, h⟩ := bs h
        refine w_laldo (pc2 := 62) G 23 rfl H_v3 dX5_addWork_61 rfl ?_
        refine w_aload_n (pc2 := 63) G 0 rfl dX5_addWork_62 rfl rfl ?_
        refine w_get (pc2 := 66) G foX5_35 0 rfl rfl dX5_addWork_63 rfl ?_
        refine w_get (pc2 := 69) G foX5_90 22 rfl rfl dX5_addWork_66 rfl ?_
        obtain ⟨x4, H_x4, h⟩ := bs h
        refine w_cV1 (pc2 := 72) (ws2 := (wX5 E a o c_act_kind c_act_set c_act_key c_act_other x4.1 x4.2.1 x4.2.2.1 x4.2.2.2.1 x4.2.2.2.2.1 x4.2.2.2.2.2.1 x4.2.2.2.2.2.2.1 x4.2.2.2.2.2.2.2.1 x4.2.2.2.2.2.2.2.2.1 x4.2.2.2.2.2.2.2.2.2 c_ta_left c_ta_right c_ta_parent c_ta_span c_ta_root c_ta_digest c_ta_height c_ta_priority c_ta_pricedBy c_ta_open c_after_keys c_after_seed c_before_keys c_before_seed c_acts c_whyNot c_work c_alikeAct c_alikePair)) (As := [.long v3, .int c_before_seed]) (rest := []) G koX5_93 (r_X4_grow (o := (o + 2)) H_x4) (Nat.le_of_ble_eq_true rfl) 4 rfl rfl [2, 3, 4, 5, 6, 7, 8, 9, 10] [0, 1, 11, 12, 13, 14, 15, 16, 17, 18, 19, 20, 21, 22, 23] [0, 1, 15, 16, 17, 18, 19, 20, 21, 22, 23, 2, 3, 4, 5, 6, 7, 8, 9, 10, 11, 12, 13, 14] rfl rfl rfl rfl rfl rfl rfl rfl rfl (Nat.le_of_ble_eq_true rfl) ⟨Nat.zero_le _, Nat.zero_le _⟩ dX5_addWork_69 rfl rfl ?_
        refine w_aload_n (pc2 := 73) G 0 rfl dX5_addWork_72 rfl rfl ?_
        refine w_get (pc2 := 76) G foX5_25 0 rfl rfl dX5_addWork_73 rfl ?_
        refine w_aload_n (pc2 := 77) G 0 rfl dX5_addWork_76 rfl rfl ?_
        refine w_get (pc2 := 80) G foX5_31 0 rfl rfl dX5_addWork_77 rfl ?_
        refine w_get (pc2 := 83) G foX5_86 20 rfl rfl dX5_addWork_80 rfl ?_
        refine w_iload_n (pc2 := 84) G 1 rfl dX5_addWork_83 rfl rfl ?_
        obtain ⟨v5, H_v5, h⟩ := bs h
        refine w_laldo (pc2 := 85) G 21 rfl H_v5 dX5_addWork_84 rfl ?_
        refine w_aload_n (pc2 := 86) G 0 rfl dX5_addWork_85 rfl rfl ?_
        refine w_get (pc2 := 89) G foX5_31 0 rfl rfl dX5_addWork_86 rfl ?_
        refine w_get (pc2 := 92) G foX5_90 20 rfl rfl dX5_addWork_89 rfl ?_
        obtain ⟨x6, H_x6, h⟩ := bs h
        refine w_cV1 (pc2 := 95) (ws2 := (wX5 E a o c_act_kind c_act_set c_act_key c_act_other x4.1 x4.2.1 x4.2.2.1 x4.2.2.2.1 x4.2.2.2.2.1 x4.2.2.2.2.2.1 x4.2.2.2.2.2.2.1 x4.2.2.2.2.2.2.2.1 x4.2.2.2.2.2.2.2.2.1 x4.2.2.2.2.2.2.2.2.2 x6.1 x6.2.1 x6.2.2.1 x6.2.2.2.1 x6.2.2.2.2.1 x6.2.2.2.2.2.1 x6.2.2.2.2.2.2.1 x6.2.2.2.2.2.2.2.1 x6.2.2.2.2.2.2.2.2.1 x6.2.2.2.2.2.2.2.2.2 c_after_keys c_after_seed c_before_keys c_before_seed c_acts c_whyNot c_work c_alikeAct c_alikePair)) (As := [.long v5, .int c_after_seed]) (rest := []) G koX5_93 (r_X4_grow (o := (o + 11)) H_x6) (Nat.le_of_ble_eq_true rfl) 4 rfl rfl [11, 12, 13, 14, 15, 16, 17, 18, 19] [0, 1, 2, 3, 4, 5, 6, 7, 8, 9, 10, 20, 21, 22, 23] [0, 1, 2, 3, 4, 5, 6, 7, 8, 9, 10, 15, 16, 17, 18, 19, 20, 21, 22, 23, 11, 12, 13, 14] rfl rfl rfl rfl rfl rfl rfl rfl rfl (Nat.le_of_ble_eq_true rfl) ⟨Nat.zero_le _, Nat.zero_le _⟩ dX5_addWork_92 rfl rfl ?_
        refine w_iconst (pc2 := 96) G dX5_addWork_95 k_iconst_0 rfl ?_
        refine w_istore_n (pc2 := 97) (lv2 := [(2, .int (0 : Int32)), (0, .ref (a o)), (1, .int l1)]) G dX5_addWork_96 rfl (Nat.le_of_ble_eq_true rfl) rfl rfl ?_
        obtain ⟨x7, h0, h⟩ := bs h
        have K_x7 : WW g E 3 0 0 (wX5 E a o c_act_kind c_act_set c_act_key c_act_other x4.1 x4.2.1 x4.2.2.1 x4.2.2.2.1 x4.2.2.2.2.1 x4.2.2.2.2.2.1 x4.2.2.2.2.2.2.1 x4.2.2.2.2.2.2.2.1 x4.2.2.2.2.2.2.2.2.1 x4.2.2.2.2.2.2.2.2.2 x6.1 x6.2.1 x6.2.2.1 x6.2.2.2.1 x6.2.2.2.2.1 x6.2.2.2.2.2.1 x6.2.2.2.2.2.2.1 x6.2.2.2.2.2.2.2.1 x6.2.2.2.2.2.2.2.2.1 x6.2.2.2.2.2.2.2.2.2 c_after_keys c_after_seed c_before_keys c_before_seed c_acts c_whyNot x7 c_alikeAct c_alikePair) [(0, .ref (a o)), (1, .int l1)] 157 [] := by
          clear h0
          refine w_iinc (pc2 := 160) (lv2 := [(1, .int (l1 + (1 : Int32))), (0, .ref (a o))]) G 1 rfl dX5_addWork_157 k_iconst_1 (Nat.le_of_ble_eq_true rfl) rfl rfl ?_
          refine w_goto (tgt := 2) G dX5_addWork_160 (by decide) ?_
          exact w_lv [1, 0] rfl (ih _ _ _ _ _ _ _ _ _ _ _ _ _ _ _ _ _ _ _ _ _ _ _ _ _ _ _ h K)
        exact w_lv [1, 2, 0] rfl (lp_X5_addWork_97 G 20000 _ _ _ _ _ _ _ h0 (w_lv [0, 1] rfl K_x7))
      · replace h := (if_pos cc).symm.trans h
        refine w_aload_n (pc2 := 30) G 0 rfl dX5_addWork_29 rfl rfl ?_
        refine w_get (pc2 := 33) G foX5_35 0 rfl rfl dX5_addWork_30 rfl ?_
        refine w_get (pc2 := 36) G foX5_90 22 rfl rfl dX5_addWork_33 rfl ?_
        refine w_aload_n (pc2 := 37) G 0 rfl dX5_addWork_36 rfl rfl ?_
        refine w_get (pc2 := 40) G foX5_31 0 rfl rfl dX5_addWork_37 rfl ?_
        refine w_get (pc2 := 43) G foX5_90 20 rfl rfl dX5_addWork_40 rfl ?_
        refine w_icmp_ne (tgt := 49) (pc2 := 46) G dX5_addWork_43 (by decide) rfl (fun cc => ?_) (fun cc => ?_)
        · replace h := (if_neg cc).symm.trans h
          refine w_aload_n (pc2 := 50) G 0 rfl dX5_addWork_49 rfl rfl ?_
          refine w_get (pc2 := 53) G foX5_21 0 rfl rfl dX5_addWork_50 rfl ?_
          refine w_aload_n (pc2 := 54) G 0 rfl dX5_addWork_53 rfl rfl ?_
          refine w_get (pc2 := 57) G foX5_35 0 rfl rfl dX5_addWork_54 rfl ?_
          refine w_get (pc2 := 60) G foX5_86 22 rfl rfl dX5_addWork_57 rfl ?_
          refine w_iload_n (pc2 := 61) G 1 rfl dX5_addWork_60 rfl rfl ?_
          obtain ⟨v8, H_v8, h⟩ := bs h
          refine w_laldo (pc2 := 62) G 23 rfl H_v8 dX5_addWork_61 rfl ?_
          refine w_aload_n (pc2 := 63) G 0 rfl dX5_addWork_62 rfl rfl ?_
          refine w_get (pc2 := 66) G foX5_35 0 rfl rfl dX5_addWork_63 rfl ?_
          refine w_get (pc2 := 69) G foX5_90 22 rfl rfl dX5_addWork_66 rfl ?_
          obtain ⟨x9, H_x9, h⟩ := bs h
          refine w_cV1 (pc2 := 72) (ws2 := (wX5 E a o c_act_kind c_act_set c_act_key c_act_other x9.1 x9.2.1 x9.2.2.1 x9.2.2.2.1 x9.2.2.2.2.1 x9.2.2.2.2.2.1 x9.2.2.2.2.2.2.1 x9.2.2.2.2.2.2.2.1 x9.2.2.2.2.2.2.2.2.1 x9.2.2.2.2.2.2.2.2.2 c_ta_left c_ta_right c_ta_parent c_ta_span c_ta_root c_ta_digest c_ta_height c_ta_priority c_ta_pricedBy c_ta_open c_after_keys c_after_seed c_before_keys c_before_seed c_acts c_whyNot c_work c_alikeAct c_alikePair)) (As := [.long v8, .int c_before_seed]) (rest := []) G koX5_93 (r_X4_grow (o := (o + 2)) H_x9) (Nat.le_of_ble_eq_true rfl) 4 rfl rfl [2, 3, 4, 5, 6, 7, 8, 9, 10] [0, 1, 11, 12, 13, 14, 15, 16, 17, 18, 19, 20, 21, 22, 23] [0, 1, 15, 16, 17, 18, 19, 20, 21, 22, 23, 2, 3, 4, 5, 6, 7, 8, 9, 10, 11, 12, 13, 14] rfl rfl rfl rfl rfl rfl rfl rfl rfl (Nat.le_of_ble_eq_true rfl) ⟨Nat.zero_le _, Nat.zero_le _⟩ dX5_addWork_69 rfl rfl ?_
          refine w_aload_n (pc2 := 73) G 0 rfl dX5_addWork_72 rfl rfl ?_
          refine w_get (pc2 := 76) G foX5_25 0 rfl rfl dX5_addWork_73 rfl ?_
          refine w_aload_n (pc2 := 77) G 0 rfl dX5_addWork_76 rfl rfl ?_
          refine w_get (pc2 := 80) G foX5_31 0 rfl rfl dX5_addWork_77 rfl ?_
          refine w_get (pc2 := 83) G foX5_86 20 rfl rfl dX5_addWork_80 rfl ?_
          refine w_iload_n (pc2 := 84) G 1 rfl dX5_addWork_83 rfl rfl ?_
          obtain ⟨v10, H_v10, h⟩ := bs h
          refine w_laldo (pc2 := 85) G 21 rfl H_v10 dX5_addWork_84 rfl ?_
          refine w_aload_n (pc2 := 86) G 0 rfl dX5_addWork_85 rfl rfl ?_
          refine w_get (pc2 := 89) G foX5_31 0 rfl rfl dX5_addWork_86 rfl ?_
          refine w_get (pc2 := 92) G foX5_90 20 rfl rfl dX5_addWork_89 rfl ?_
          obtain ⟨x11, H_x11, h⟩ := bs h
          refine w_cV1 (pc2 := 95) (ws2 := (wX5 E a o c_act_kind c_act_set c_act_key c_act_other x9.1 x9.2.1 x9.2.2.1 x9.2.2.2.1 x9.2.2.2.2.1 x9.2.2.2.2.2.1 x9.2.2.2.2.2.2.1 x9.2.2.2.2.2.2.2.1 x9.2.2.2.2.2.2.2.2.1 x9.2.2.2.2.2.2.2.2.2 x11.1 x11.2.1 x11.2.2.1 x11.2.2.2.1 x11.2.2.2.2.1 x11.2.2.2.2.2.1 x11.2.2.2.2.2.2.1 x11.2.2.2.2.2.2.2.1 x11.2.2.2.2.2.2.2.2.1 x11.2.2.2.2.2.2.2.2.2 c_after_keys c_after_seed c_before_keys c_before_seed c_acts c_whyNot c_work c_alikeAct c_alikePair)) (As := [.long v10, .int c_after_seed]) (rest := []) G koX5_93 (r_X4_grow (o := (o + 11)) H_x11) (Nat.le_of_ble_eq_true rfl) 4 rfl rfl [11, 12, 13, 14, 15, 16, 17, 18, 19] [0, 1, 2, 3, 4, 5, 6, 7, 8, 9, 10, 20, 21, 22, 23] [0, 1, 2, 3, 4, 5, 6, 7, 8, 9, 10, 15, 16, 17, 18, 19, 20, 21, 22, 23, 11, 12, 13, 14] rfl rfl rfl rfl rfl rfl rfl rfl rfl (Nat.le_of_ble_eq_true rfl) ⟨Nat.zero_le _, Nat.zero_le _⟩ dX5_addWork_92 rfl rfl ?_
          refine w_iconst (pc2 := 96) G dX5_addWork_95 k_iconst_0 rfl ?_
          refine w_istore_n (pc2 := 97) (lv2 := [(2, .int (0 : Int32)), (0, .ref (a o)), (1, .int l1)]) G dX5_addWork_96 rfl (Nat.le_of_ble_eq_true rfl) rfl rfl ?_
          obtain ⟨x12, h0, h⟩ := bs h
          have K_x12 : WW g E 3 0 0 (wX5 E a o c_act_kind c_act_set c_act_key c_act_other x9.1 x9.2.1 x9.2.2.1 x9.2.2.2.1 x9.2.2.2.2.1 x9.2.2.2.2.2.1 x9.2.2.2.2.2.2.1 x9.2.2.2.2.2.2.2.1 x9.2.2.2.2.2.2.2.2.1 x9.2.2.2.2.2.2.2.2.2 x11.1 x11.2.1 x11.2.2.1 x11.2.2.2.1 x11.2.2.2.2.1 x11.2.2.2.2.2.1 x11.2.2.2.2.2.2.1 x11.2.2.2.2.2.2.2.1 x11.2.2.2.2.2.2.2.2.1 x11.2.2.2.2.2.2.2.2.2 c_after_keys c_after_seed c_before_keys c_before_seed c_acts c_whyNot x12 c_alikeAct c_alikePair) [(0, .ref (a o)), (1, .int l1)] 157 [] := by
            clear h0
            refine w_iinc (pc2 := 160) (lv2 := [(1, .int (l1 + (1 : Int32))), (0, .ref (a o))]) G 1 rfl dX5_addWork_157 k_iconst_1 (Nat.le_of_ble_eq_true rfl) rfl rfl ?_
            refine w_goto (tgt := 2) G dX5_addWork_160 (by decide) ?_
            exact w_lv [1, 0] rfl (ih _ _ _ _ _ _ _ _ _ _ _ _ _ _ _ _ _ _ _ _ _ _ _ _ _ _ _ h K)
          exact w_lv [1, 2, 0] rfl (lp_X5_addWork_97 G 20000 _ _ _ _ _ _ _ h0 (w_lv [0, 1] rfl K_x12))
        · replace h := (if_pos cc).symm.trans h
          refine w_goto (tgt := 157) G dX5_addWork_46 (by decide) ?_
          refine w_iinc (pc2 := 160) (lv2 := [(1, .int (l1 + (1 : Int32))), (0, .ref (a o))]) G 1 rfl dX5_addWork_157 k_iconst_1 (Nat.le_of_ble_eq_true rfl) rfl rfl ?_
          refine w_goto (tgt := 2) G dX5_addWork_160 (by decide) ?_
          exact w_lv [1, 0] rfl (ih _ _ _ _ _ _ _ _ _ _ _ _ _ _ _ _ _ _ _ _ _ _ _ _ _ _ _ h K)
set_option maxHeartbeats 4000000 in
set_option maxRecDepth 100000 in
theorem r_X5_addWork {l : Launch} {E : EV} {a : Nat → Nat} {o : Nat} {c_act_kind c_act_set c_act_key c_act_other : Int32} {c_tb_left c_tb_right c_tb_parent : Nat → Int32} {c_tb_span : Nat → Int64} {c_tb_root : Int32} {c_tb_digest c_tb_height c_tb_priority : Nat → Int32} {c_tb_pricedBy : Int32} {c_tb_open c_ta_left c_ta_right c_ta_parent : Nat → Int32} {c_ta_span : Nat → Int64} {c_ta_root : Int32} {c_ta_digest c_ta_height c_ta_priority : Nat → Int32} {c_ta_pricedBy : Int32} {c_ta_open : Nat → Int32} {c_after_keys : Nat → Int64} {c_after_seed : Int32} {c_before_keys : Nat → Int64} {c_before_seed c_acts c_whyNot c_work c_alikeAct c_alikePair : Int32}  {R : (Nat → Int32) × (Nat → Int32) × (Nat → Int32) × (Nat → Int64) × Int32 × (Nat → Int32) × (Nat → Int32) × (Nat → Int32) × Int32 × (Nat → Int32) × (Nat → Int32) × (Nat → Int32) × (Nat → Int32) × (Nat → Int64) × Int32 × (Nat → Int32) × (Nat → Int32) × (Nat → Int32) × Int32 × (Nat → Int32) × Int32} (h : f_X5_addWork c_tb_left c_tb_right c_tb_parent c_tb_span c_tb_root c_tb_digest c_tb_height c_tb_priority c_tb_pricedBy c_tb_open c_ta_left c_ta_right c_ta_parent c_ta_span c_ta_root c_ta_digest c_ta_height c_ta_priority c_ta_pricedBy c_ta_open c_after_keys c_after_seed c_before_keys c_before_seed c_work = some R) : Ret1 l E yX5_addWork cX5_addWork 3 none 3 (wX5 E a o c_act_kind c_act_set c_act_key c_act_other c_tb_left c_tb_right c_tb_parent c_tb_span c_tb_root c_tb_digest c_tb_height c_tb_priority c_tb_pricedBy c_tb_open c_ta_left c_ta_right c_ta_parent c_ta_span c_ta_root c_ta_digest c_ta_height c_ta_priority c_ta_pricedBy c_ta_open c_after_keys c_after_seed c_before_keys c_before_seed c_acts c_whyNot c_work c_alikeAct c_alikePair) [.ref (a o)] none (wX5 E a o c_act_kind c_act_set c_act_key c_act_other R.1 R.2.1 R.2.2.1 R.2.2.2.1 R.2.2.2.2.1 R.2.2.2.2.2.1 R.2.2.2.2.2.2.1 R.2.2.2.2.2.2.2.1 R.2.2.2.2.2.2.2.2.1 R.2.2.2.2.2.2.2.2.2.1 R.2.2.2.2.2.2.2.2.2.2.1 R.2.2.2.2.2.2.2.2.2.2.2.1 R.2.2.2.2.2.2.2.2.2.2.2.2.1 R.2.2.2.2.2.2.2.2.2.2.2.2.2.1 R.2.2.2.2.2.2.2.2.2.2.2.2.2.2.1 R.2.2.2.2.2.2.2.2.2.2.2.2.2.2.2.1 R.2.2.2.2.2.2.2.2.2.2.2.2.2.2.2.2.1 R.2.2.2.2.2.2.2.2.2.2.2.2.2.2.2.2.2.1 R.2.2.2.2.2.2.2.2.2.2.2.2.2.2.2.2.2.2.1 R.2.2.2.2.2.2.2.2.2.2.2.2.2.2.2.2.2.2.2.1 c_after_keys c_after_seed c_before_keys c_before_seed c_acts c_whyNot R.2.2.2.2.2.2.2.2.2.2.2.2.2.2.2.2.2.2.2.2 c_alikeAct c_alikePair) := by
  refine Ret.intro (lv := [(0, .ref (a o))]) (by decide) (Nat.le_of_ble_eq_true rfl) rfl ?_
  intro g hgl G hQ
  subst hgl
  rw [f_X5_addWork] at h
  refine w_iconst (pc2 := 1) G dX5_addWork_0 k_iconst_0 rfl ?_
  refine w_istore_n (pc2 := 2) (lv2 := [(1, .int (0 : Int32)), (0, .ref (a o))]) G dX5_addWork_1 rfl (Nat.le_of_ble_eq_true rfl) rfl rfl ?_
  obtain ⟨x1, h0, h⟩ := bs h
  have K_x1 : WW g E 3 0 0 (wX5 E a o c_act_kind c_act_set c_act_key c_act_other x1.1 x1.2.1 x1.2.2.1 x1.2.2.2.1 x1.2.2.2.2.1 x1.2.2.2.2.2.1 x1.2.2.2.2.2.2.1 x1.2.2.2.2.2.2.2.1 x1.2.2.2.2.2.2.2.2.1 x1.2.2.2.2.2.2.2.2.2.1 x1.2.2.2.2.2.2.2.2.2.2.1 x1.2.2.2.2.2.2.2.2.2.2.2.1 x1.2.2.2.2.2.2.2.2.2.2.2.2.1 x1.2.2.2.2.2.2.2.2.2.2.2.2.2.1 x1.2.2.2.2.2.2.2.2.2.2.2.2.2.2.1 x1.2.2.2.2.2.2.2.2.2.2.2.2.2.2.2.1 x1.2.2.2.2.2.2.2.2.2.2.2.2.2.2.2.2.1 x1.2.2.2.2.2.2.2.2.2.2.2.2.2.2.2.2.2.1 x1.2.2.2.2.2.2.2.2.2.2.2.2.2.2.2.2.2.2.1 x1.2.2.2.2.2.2.2.2.2.2.2.2.2.2.2.2.2.2.2.1 c_after_keys c_after_seed c_before_keys c_before_seed c_acts c_whyNot x1.2.2.2.2.2.2.2.2.2.2.2.2.2.2.2.2.2.2.2.2 c_alikeAct c_alikePair) [] 163 [] := by
    clear h0
    cases h
    exact w_vret G hQ rfl ⟨rfl, rfl⟩ dX5_addWork_163
  exact w_lv [1, 0] rfl (lp_X5_addWork_2 G 20000 _ _ _ _ _ _ _ _ _ _ _ _ _ _ _ _ _ _ _ _ _ _ _ _ _ _ _ h0 (w_lv [] rfl K_x1))

set_option maxHeartbeats 4000000 in
set_option maxRecDepth 100000 in
theorem r_X5_sameKeys {l : Launch} {E : EV} {a : Nat → Nat} {o : Nat} {c_keys : Nat → Int64} {c_seed : Int32} {l1 : Int32} {l2 : Int32} {R : Int32} (h : f_X5_sameKeys c_keys l1 l2 = some R) : Ret1 l E yX5_sameKeys cX5_sameKeys 3 (some .boolean) 0 (wX6 E a o c_keys c_seed) [.ref (a o), .int l1, .int l2] (some (.int R)) (wX6 E a o c_keys c_seed) := by
  refine Ret.intro (lv := [(0, .ref (a o)), (1, .int l1), (2, .int l2)]) (by decide) (Nat.le_of_ble_eq_true rfl) rfl ?_
  intro g hgl G hQ
  subst hgl
  rw [f_X5_sameKeys] at h
  refine w_aload_n (pc2 := 1) G 0 rfl dX5_sameKeys_0 rfl rfl ?_
  refine w_get (pc2 := 4) G foX5_86 0 rfl rfl dX5_sameKeys_1 rfl ?_
  refine w_iload_n (pc2 := 5) G 1 rfl dX5_sameKeys_4 rfl rfl ?_
  obtain ⟨v1, H_v1, h⟩ := bs h
  refine w_laldo (pc2 := 6) G 1 rfl H_v1 dX5_sameKeys_5 rfl ?_
  refine w_lconst (pc2 := 7) G dX5_sameKeys_6 k_lconst_0 rfl ?_
  refine w_lcmp (pc2 := 8) G dX5_sameKeys_7 rfl ?_
  refine w_if_eq (tgt := 31) (pc2 := 11) G dX5_sameKeys_8 (by decide) rfl (fun cc => ?_) (fun cc => ?_)
  · replace h := (if_pos cc).symm.trans h
    refine w_iconst (pc2 := 32) G dX5_sameKeys_31 k_iconst_0 rfl ?_
    cases h
    exact w_zret G hQ rfl (Or.inl rfl) ⟨rfl, rfl⟩ dX5_sameKeys_32
  · replace h := (if_neg cc).symm.trans h
    refine w_aload_n (pc2 := 12) G 0 rfl dX5_sameKeys_11 rfl rfl ?_
    refine w_get (pc2 := 15) G foX5_86 0 rfl rfl dX5_sameKeys_12 rfl ?_
    refine w_iload_n (pc2 := 16) G 1 rfl dX5_sameKeys_15 rfl rfl ?_
    obtain ⟨v2, H_v2, h⟩ := bs h
    refine w_laldo (pc2 := 17) G 1 rfl H_v2 dX5_sameKeys_16 rfl ?_
    refine w_aload_n (pc2 := 18) G 0 rfl dX5_sameKeys_17 rfl rfl ?_
    refine w_get (pc2 := 21) G foX5_86 0 rfl rfl dX5_sameKeys_18 rfl ?_
    refine w_iload_n (pc2 := 22) G 2 rfl dX5_sameKeys_21 rfl rfl ?_
    obtain ⟨v3, H_v3, h⟩ := bs h
    refine w_laldo (pc2 := 23) G 1 rfl H_v3 dX5_sameKeys_22 rfl ?_
    refine w_lcmp (pc2 := 24) G dX5_sameKeys_23 rfl ?_
    refine w_if_ne (tgt := 31) (pc2 := 27) G dX5_sameKeys_24 (by decide) rfl (fun cc => ?_) (fun cc => ?_)
    · replace h := (if_neg cc).symm.trans h
      refine w_iconst (pc2 := 32) G dX5_sameKeys_31 k_iconst_0 rfl ?_
      cases h
      exact w_zret G hQ rfl (Or.inl rfl) ⟨rfl, rfl⟩ dX5_sameKeys_32
    · replace h := (if_pos cc).symm.trans h
      refine w_iconst (pc2 := 28) G dX5_sameKeys_27 k_iconst_1 rfl ?_
      refine w_goto (tgt := 32) G dX5_sameKeys_28 (by decide) ?_
      cases h
      exact w_zret G hQ rfl (Or.inr rfl) ⟨rfl, rfl⟩ dX5_sameKeys_32

set_option maxHeartbeats 4000000 in
set_option maxRecDepth 100000 in
theorem lp_X5_seekAlike_11 {g : CX} {E : EV} {a : Nat → Nat} {o : Nat} {c_act_kind c_act_set c_act_key c_act_other : Int32} {c_tb_left c_tb_right c_tb_parent : Nat → Int32} {c_tb_span : Nat → Int64} {c_tb_root : Int32} {c_tb_digest c_tb_height c_tb_priority : Nat → Int32} {c_tb_pricedBy : Int32} {c_tb_open c_ta_left c_ta_right c_ta_parent : Nat → Int32} {c_ta_span : Nat → Int64} {c_ta_root : Int32} {c_ta_digest c_ta_height c_ta_priority : Nat → Int32} {c_ta_pricedBy : Int32} {c_ta_open : Nat → Int32} {c_after_seed c_before_seed c_whyNot c_work : Int32}  (G : GG g E RX5 cX5_seekAlike 3 none 1 0 0) : ∀ (n : Nat) (c_after_keys : Nat → Int64) (c_before_keys : Nat → Int64) (c_acts : Int32) (c_alikeAct : Int32) (c_alikePair : Int32) (l1 : Int32) (l2 : Int32) (R : Int32 × Int32), L_X5_seekAlike_11 n c_after_keys c_before_keys c_acts c_alikeAct c_alikePair l1 l2 = some R → WW g E 3 0 0 (wX5 E a o c_act_kind c_act_set c_act_key c_act_other c_tb_left c_tb_right c_tb_parent c_tb_span c_tb_root c_tb_digest c_tb_height c_tb_priority c_tb_pricedBy c_tb_open c_ta_left c_ta_right c_ta_parent c_ta_span c_ta_root c_ta_digest c_ta_height c_ta_priority c_ta_pricedBy c_ta_open c_after_keys c_after_seed c_before_keys c_before_seed c_acts c_whyNot c_work R.1 R.2) [(0, .ref (a o)), (1, .int l1)] 73 [] → WW g E 3 0 0 (wX5 E a o c_act_kind c_act_set c_act_key c_act_other c_tb_left c_tb_right c_tb_parent c_tb_span c_tb_root c_tb_digest c_tb_height c_tb_priority c_tb_pricedBy c_tb_open c_ta_left c_ta_right c_ta_parent c_ta_span c_ta_root c_ta_digest c_ta_height c_ta_priority c_ta_pricedBy c_ta_open c_after_keys c_after_seed c_before_keys c_before_seed c_acts c_whyNot c_work c_alikeAct c_alikePair) [(0, .ref (a o)), (1, .int l1), (2, .int l2)] 11 [] := by
  intro n
  induction n with
  | zero => intro c_after_keys c_before_keys c_acts c_alikeAct c_alikePair l1 l2 R h; exact no_some h
  | succ n ih =>
    intro c_after_keys c_before_keys c_acts c_alikeAct c_alikePair l1 l2 R h K
    rw [L_X5_seekAlike_11] at h
    refine w_iload_n (pc2 := 12) G 2 rfl dX5_seekAlike_11 rfl rfl ?_
    refine w_iconst (pc2 := 13) G dX5_seekAlike_12 k_iconst_4 rfl ?_
    refine w_icmp_ge (tgt := 73) (pc2 := 16) G dX5_seekAlike_13 (by decide) rfl (fun cc => ?_) (fun cc => ?_)
    · replace h := (if_pos cc).symm.trans h
      cases h
      exact w_lv [0, 1] rfl K
    · replace h := (if_neg cc).symm.trans h
      refine w_aload_n (pc2 := 17) G 0 rfl dX5_seekAlike_16 rfl rfl ?_
      refine w_get (pc2 := 20) G foX5_52 0 rfl rfl dX5_seekAlike_17 rfl ?_
      refine w_bipush (pc2 := 22) G dX5_seekAlike_20 k_bipush_m6 rfl ?_
      refine w_icmp_ne (tgt := 67) (pc2 := 25) G dX5_seekAlike_22 (by decide) rfl (fun cc => ?_) (fun cc => ?_)
      · replace h := (if_neg cc).symm.trans h
        refine w_iinc (pc2 := 70) (lv2 := [(2, .int (l2 + (1 : Int32))), (0, .ref (a o)), (1, .int l1)]) G 2 rfl dX5_seekAlike_67 k_iconst_1 (Nat.le_of_ble_eq_true rfl) rfl rfl ?_
        refine w_goto (tgt := 11) G dX5_seekAlike_70 (by decide) ?_
        exact w_lv [1, 2, 0] rfl (ih _ _ _ _ _ _ _ _ h K)
      · replace h := (if_pos cc).symm.trans h
        refine w_aload_n (pc2 := 26) G 0 rfl dX5_seekAlike_25 rfl rfl ?_
        refine w_get (pc2 := 29) G foX5_31 0 rfl rfl dX5_seekAlike_26 rfl ?_
        refine w_iload_n (pc2 := 30) G 1 rfl dX5_seekAlike_29 rfl rfl ?_
        refine w_iload_n (pc2 := 31) G 2 rfl dX5_seekAlike_30 rfl rfl ?_
        obtain ⟨x1, H_x1, h⟩ := bs h
        refine w_cS1 (pc2 := 34) (ws2 := (wX5 E a o c_act_kind c_act_set c_act_key c_act_other c_tb_left c_tb_right c_tb_parent c_tb_span c_tb_root c_tb_digest c_tb_height c_tb_priority c_tb_pricedBy c_tb_open c_ta_left c_ta_right c_ta_parent c_ta_span c_ta_root c_ta_digest c_ta_height c_ta_priority c_ta_pricedBy c_ta_open c_after_keys c_after_seed c_before_keys c_before_seed c_acts c_whyNot c_work c_alikeAct c_alikePair)) (As := [.ref (a (o + 20)), .int l1, .int l2]) (rest := []) G koX5_104 (r_X5_sameKeys (o := (o + 20)) H_x1) (Nat.le_of_ble_eq_true rfl) [20, 21] [0, 1, 2, 3, 4, 5, 6, 7, 8, 9, 10, 11, 12, 13, 14, 15, 16, 17, 18, 19, 22, 23] [0, 1, 2, 3, 4, 5, 6, 7, 8, 9, 10, 11, 12, 13, 14, 15, 16, 17, 18, 19, 22, 23, 20, 21] rfl rfl rfl rfl rfl rfl rfl rfl rfl (Nat.le_of_ble_eq_true rfl) ⟨Nat.zero_le _, Nat.zero_le _⟩ dX5_seekAlike_31 rfl rfl ?_
        refine w_if_eq (tgt := 67) (pc2 := 37) G dX5_seekAlike_34 (by decide) rfl (fun cc => ?_) (fun cc => ?_)
        · replace h := (if_pos cc).symm.trans h
          refine w_iinc (pc2 := 70) (lv2 := [(2, .int (l2 + (1 : Int32))), (0, .ref (a o)), (1, .int l1)]) G 2 rfl dX5_seekAlike_67 k_iconst_1 (Nat.le_of_ble_eq_true rfl) rfl rfl ?_
          refine w_goto (tgt := 11) G dX5_seekAlike_70 (by decide) ?_
          exact w_lv [1, 2, 0] rfl (ih _ _ _ _ _ _ _ _ h K)
        · replace h := (if_neg cc).symm.trans h
          refine w_aload_n (pc2 := 38) G 0 rfl dX5_seekAlike_37 rfl rfl ?_
          refine w_get (pc2 := 41) G foX5_35 0 rfl rfl dX5_seekAlike_38 rfl ?_
          refine w_iload_n (pc2 := 42) G 1 rfl dX5_seekAlike_41 rfl rfl ?_
          refine w_iload_n (pc2 := 43) G 2 rfl dX5_seekAlike_42 rfl rfl ?_
          obtain ⟨x2, H_x2, h⟩ := bs h
          refine w_cS1 (pc2 := 46) (ws2 := (wX5 E a o c_act_kind c_act_set c_act_key c_act_other c_tb_left c_tb_right c_tb_parent c_tb_span c_tb_root c_tb_digest c_tb_height c_tb_priority c_tb_pricedBy c_tb_open c_ta_left c_ta_right c_ta_parent c_ta_span c_ta_root c_ta_digest c_ta_height c_ta_priority c_ta_pricedBy c_ta_open c_after_keys c_after_seed c_before_keys c_before_seed c_acts c_whyNot c_work c_alikeAct c_alikePair)) (As := [.ref (a (o + 22)), .int l1, .int l2]) (rest := []) G koX5_104 (r_X5_sameKeys (o := (o + 22)) H_x2) (Nat.le_of_ble_eq_true rfl) [22, 23] [0, 1, 2, 3, 4, 5, 6, 7, 8, 9, 10, 11, 12, 13, 14, 15, 16, 17, 18, 19, 20, 21] [0, 1, 2, 3, 4, 5, 6, 7, 8, 9, 10, 11, 12, 13, 14, 15, 16, 17, 18, 19, 20, 21, 22, 23] rfl rfl rfl rfl rfl rfl rfl rfl rfl (Nat.le_of_ble_eq_true rfl) ⟨Nat.zero_le _, Nat.zero_le _⟩ dX5_seekAlike_43 rfl rfl ?_
          refine w_if_ne (tgt := 67) (pc2 := 49) G dX5_seekAlike_46 (by decide) rfl (fun cc => ?_) (fun cc => ?_)
          · replace h := (if_neg cc).symm.trans h
            refine w_iinc (pc2 := 70) (lv2 := [(2, .int (l2 + (1 : Int32))), (0, .ref (a o)), (1, .int l1)]) G 2 rfl dX5_seekAlike_67 k_iconst_1 (Nat.le_of_ble_eq_true rfl) rfl rfl ?_
            refine w_goto (tgt := 11) G dX5_seekAlike_70 (by decide) ?_
            exact w_lv [1, 2, 0] rfl (ih _ _ _ _ _ _ _ _ h K)
          · replace h := (if_pos cc).symm.trans h
            refine w_aload_n (pc2 := 50) G 0 rfl dX5_seekAlike_49 rfl rfl ?_
            refine w_aload_n (pc2 := 51) G 0 rfl dX5_seekAlike_50 rfl rfl ?_
            refine w_get (pc2 := 54) G foX5_42 0 rfl rfl dX5_seekAlike_51 rfl ?_
            refine w_put (pc2 := 57) (ws2 := (wX5 E a o c_act_kind c_act_set c_act_key c_act_other c_tb_left c_tb_right c_tb_parent c_tb_span c_tb_root c_tb_digest c_tb_height c_tb_priority c_tb_pricedBy c_tb_open c_ta_left c_ta_right c_ta_parent c_ta_span c_ta_root c_ta_digest c_ta_height c_ta_priority c_ta_pricedBy c_ta_open c_after_keys c_after_seed c_before_keys c_before_seed c_acts c_whyNot c_work c_acts c_alikePair)) G foX5_52 tokX5 0 rfl rfl rfl rfl (Nat.le_of_ble_eq_true rfl) rfl dX5_seekAlike_54 rfl ?_
            refine w_aload_n (pc2 := 58) G 0 rfl dX5_seekAlike_57 rfl rfl ?_
            refine w_bipush (pc2 := 60) G dX5_seekAlike_58 k_bipush_10 rfl ?_
            refine w_iload_n (pc2 := 61) G 1 rfl dX5_seekAlike_60 rfl rfl ?_
            refine w_imul (pc2 := 62) G dX5_seekAlike_61 rfl ?_
            refine w_iload_n (pc2 := 63) G 2 rfl dX5_seekAlike_62 rfl rfl ?_
            refine w_iadd (pc2 := 64) G dX5_seekAlike_63 rfl ?_
            refine w_put (pc2 := 67) (ws2 := (wX5 E a o c_act_kind c_act_set c_act_key c_act_other c_tb_left c_tb_right c_tb_parent c_tb_span c_tb_root c_tb_digest c_tb_height c_tb_priority c_tb_pricedBy c_tb_open c_ta_left c_ta_right c_ta_parent c_ta_span c_ta_root c_ta_digest c_ta_height c_ta_priority c_ta_pricedBy c_ta_open c_after_keys c_after_seed c_before_keys c_before_seed c_acts c_whyNot c_work c_acts (((10 : Int32) * l1) + l2))) G foX5_55 tokX5 0 rfl rfl rfl rfl (Nat.le_of_ble_eq_true rfl) rfl dX5_seekAlike_64 rfl ?_
            refine w_iinc (pc2 := 70) (lv2 := [(2, .int (l2 + (1 : Int32))), (0, .ref (a o)), (1, .int l1)]) G 2 rfl dX5_seekAlike_67 k_iconst_1 (Nat.le_of_ble_eq_true rfl) rfl rfl ?_
            refine w_goto (tgt := 11) G dX5_seekAlike_70 (by decide) ?_
            exact w_lv [1, 2, 0] rfl (ih _ _ _ _ _ _ _ _ h K)
set_option maxHeartbeats 4000000 in
set_option maxRecDepth 100000 in
theorem lp_X5_seekAlike_2 {g : CX} {E : EV} {a : Nat → Nat} {o : Nat} {c_act_kind c_act_set c_act_key c_act_other : Int32} {c_tb_left c_tb_right c_tb_parent : Nat → Int32} {c_tb_span : Nat → Int64} {c_tb_root : Int32} {c_tb_digest c_tb_height c_tb_priority : Nat → Int32} {c_tb_pricedBy : Int32} {c_tb_open c_ta_left c_ta_right c_ta_parent : Nat → Int32} {c_ta_span : Nat → Int64} {c_ta_root : Int32} {c_ta_digest c_ta_height c_ta_priority : Nat → Int32} {c_ta_pricedBy : Int32} {c_ta_open : Nat → Int32} {c_after_seed c_before_seed c_whyNot c_work : Int32}  (G : GG g E RX5 cX5_seekAlike 3 none 1 0 0) : ∀ (n : Nat) (c_after_keys : Nat → Int64) (c_before_keys : Nat → Int64) (c_acts : Int32) (c_alikeAct : Int32) (c_alikePair : Int32) (l1 : Int32) (R : Int32 × Int32), L_X5_seekAlike_2 n c_after_keys c_before_keys c_acts c_alikeAct c_alikePair l1 = some R → WW g E 3 0 0 (wX5 E a o c_act_kind c_act_set c_act_key c_act_other c_tb_left c_tb_right c_tb_parent c_tb_span c_tb_root c_tb_digest c_tb_height c_tb_priority c_tb_pricedBy c_tb_open c_ta_left c_ta_right c_ta_parent c_ta_span c_ta_root c_ta_digest c_ta_height c_ta_priority c_ta_pricedBy c_ta_open c_after_keys c_after_seed c_before_keys c_before_seed c_acts c_whyNot c_work R.1 R.2) [] 79 [] → WW g E 3 0 0 (wX5 E a o c_act_kind c_act_set c_act_key c_act_other c_tb_left c_tb_right c_tb_parent c_tb_span c_tb_root c_tb_digest c_tb_height c_tb_priority c_tb_pricedBy c_tb_open c_ta_left c_ta_right c_ta_parent c_ta_span c_ta_root c_ta_digest c_ta_height c_ta_priority c_ta_pricedBy c_ta_open c_after_keys c_after_seed c_before_keys c_before_seed c_acts c_whyNot c_work c_alikeAct c_alikePair) [(0, .ref (a o)), (1, .int l1)] 2 [] := by
  intro n
  induction n with
  | zero => intro c_after_keys c_before_keys c_acts c_alikeAct c_alikePair l1 R h; exact no_some h
  | succ n ih =>
    intro c_after_keys c_before_keys c_acts c_alikeAct c_alikePair l1 R h K
    rw [L_X5_seekAlike_2] at h
    refine w_iload_n (pc2 := 3) G 1 rfl dX5_seekAlike_2 rfl rfl ?_
    refine w_iconst (pc2 := 4) G dX5_seekAlike_3 k_iconst_4 rfl ?_
    refine w_icmp_ge (tgt := 79) (pc2 := 7) G dX5_seekAlike_4 (by decide) rfl (fun cc => ?_) (fun cc => ?_)
    · replace h := (if_pos cc).symm.trans h
      cases h
      exact w_lv [] rfl K
    · replace h := (if_neg cc).symm.trans h
      refine w_iload_n (pc2 := 8) G 1 rfl dX5_seekAlike_7 rfl rfl ?_
      refine w_iconst (pc2 := 9) G dX5_seekAlike_8 k_iconst_1 rfl ?_
      refine w_iadd (pc2 := 10) G dX5_seekAlike_9 rfl ?_
      refine w_istore_n (pc2 := 11) (lv2 := [(2, .int (l1 + (1 : Int32))), (0, .ref (a o)), (1, .int l1)]) G dX5_seekAlike_10 rfl (Nat.le_of_ble_eq_true rfl) rfl rfl ?_
      obtain ⟨x1, h0, h⟩ := bs h
      have K_x1 : WW g E 3 0 0 (wX5 E a o c_act_kind c_act_set c_act_key c_act_other c_tb_left c_tb_right c_tb_parent c_tb_span c_tb_root c_tb_digest c_tb_height c_tb_priority c_tb_pricedBy c_tb_open c_ta_left c_ta_right c_ta_parent c_ta_span c_ta_root c_ta_digest c_ta_height c_ta_priority c_ta_pricedBy c_ta_open c_after_keys c_after_seed c_before_keys c_before_seed c_acts c_whyNot c_work x1.1 x1.2) [(0, .ref (a o)), (1, .int l1)] 73 [] := by
        clear h0
        refine w_iinc (pc2 := 76) (lv2 := [(1, .int (l1 + (1 : Int32))), (0, .ref (a o))]) G 1 rfl dX5_seekAlike_73 k_iconst_1 (Nat.le_of_ble_eq_true rfl) rfl rfl ?_
        refine w_goto (tgt := 2) G dX5_seekAlike_76 (by decide) ?_
        exact w_lv [1, 0] rfl (ih _ _ _ _ _ _ _ h K)
      exact w_lv [1, 2, 0] rfl (lp_X5_seekAlike_11 G 20000 _ _ _ _ _ _ _ _ h0 (w_lv [0, 1] rfl K_x1))
set_option maxHeartbeats 4000000 in
set_option maxRecDepth 100000 in
theorem r_X5_seekAlike {l : Launch} {E : EV} {a : Nat → Nat} {o : Nat} {c_act_kind c_act_set c_act_key c_act_other : Int32} {c_tb_left c_tb_right c_tb_parent : Nat → Int32} {c_tb_span : Nat → Int64} {c_tb_root : Int32} {c_tb_digest c_tb_height c_tb_priority : Nat → Int32} {c_tb_pricedBy : Int32} {c_tb_open c_ta_left c_ta_right c_ta_parent : Nat → Int32} {c_ta_span : Nat → Int64} {c_ta_root : Int32} {c_ta_digest c_ta_height c_ta_priority : Nat → Int32} {c_ta_pricedBy : Int32} {c_ta_open : Nat → Int32} {c_after_keys : Nat → Int64} {c_after_seed : Int32} {c_before_keys : Nat → Int64} {c_before_seed c_acts c_whyNot c_work c_alikeAct c_alikePair : Int32}  {R : Int32 × Int32} (h : f_X5_seekAlike c_after_keys c_before_keys c_acts c_alikeAct c_alikePair = some R) : Ret1 l E yX5_seekAlike cX5_seekAlike 3 none 1 (wX5 E a o c_act_kind c_act_set c_act_key c_act_other c_tb_left c_tb_right c_tb_parent c_tb_span c_tb_root c_tb_digest c_tb_height c_tb_priority c_tb_pricedBy c_tb_open c_ta_left c_ta_right c_ta_parent c_ta_span c_ta_root c_ta_digest c_ta_height c_ta_priority c_ta_pricedBy c_ta_open c_after_keys c_after_seed c_before_keys c_before_seed c_acts c_whyNot c_work c_alikeAct c_alikePair) [.ref (a o)] none (wX5 E a o c_act_kind c_act_set c_act_key c_act_other c_tb_left c_tb_right c_tb_parent c_tb_span c_tb_root c_tb_digest c_tb_height c_tb_priority c_tb_pricedBy c_tb_open c_ta_left c_ta_right c_ta_parent c_ta_span c_ta_root c_ta_digest c_ta_height c_ta_priority c_ta_pricedBy c_ta_open c_after_keys c_after_seed c_before_keys c_before_seed c_acts c_whyNot c_work R.1 R.2) := by
  refine Ret.intro (lv := [(0, .ref (a o))]) (by decide) (Nat.le_of_ble_eq_true rfl) rfl ?_
  intro g hgl G hQ
  subst hgl
  rw [f_X5_seekAlike] at h
  refine w_iconst (pc2 := 1) G dX5_seekAlike_0 k_iconst_0 rfl ?_
  refine w_istore_n (pc2 := 2) (lv2 := [(1, .int (0 : Int32)), (0, .ref (a o))]) G dX5_seekAlike_1 rfl (Nat.le_of_ble_eq_true rfl) rfl rfl ?_
  obtain ⟨x1, h0, h⟩ := bs h
  have K_x1 : WW g E 3 0 0 (wX5 E a o c_act_kind c_act_set c_act_key c_act_other c_tb_left c_tb_right c_tb_parent c_tb_span c_tb_root c_tb_digest c_tb_height c_tb_priority c_tb_pricedBy c_tb_open c_ta_left c_ta_right c_ta_parent c_ta_span c_ta_root c_ta_digest c_ta_height c_ta_priority c_ta_pricedBy c_ta_open c_after_keys c_after_seed c_before_keys c_before_seed c_acts c_whyNot c_work x1.1 x1.2) [] 79 [] := by
    clear h0
    cases h
    exact w_vret G hQ rfl ⟨rfl, rfl⟩ dX5_seekAlike_79
  exact w_lv [1, 0] rfl (lp_X5_seekAlike_2 G 20000 _ _ _ _ _ _ _ h0 (w_lv [] rfl K_x1))

set_option maxHeartbeats 4000000 in
set_option maxRecDepth 100000 in
theorem lp_X5_play_40 {g : CX} {E : EV} {a : Nat → Nat} {o o1 o2 : Nat} {c_r2_keys : Nat → Int64} {c_r2_seed : Int32}  (G : GG g E RX5 cX5_play 5 none 4 0 0) {R : Int32 × Int32 × Int32 × Int32 × (Nat → Int32) × (Nat → Int32) × (Nat → Int32) × (Nat → Int64) × Int32 × (Nat → Int32) × (Nat → Int32) × (Nat → Int32) × Int32 × (Nat → Int32) × (Nat → Int32) × (Nat → Int32) × (Nat → Int32) × (Nat → Int64) × Int32 × (Nat → Int32) × (Nat → Int32) × (Nat → Int32) × Int32 × (Nat → Int32) × (Nat → Int64) × Int32 × (Nat → Int64) × Int32 × Int32 × Int32 × Int32 × Int32 × Int32} {c_r1_signs : Nat → Int32} {c_r1_count : Int32} (hQ : RQ g E 0 0 (fun v2 w2 => v2 = none ∧ w2 = ((wX5 E a o R.1 R.2.1 R.2.2.1 R.2.2.2.1 R.2.2.2.2.1 R.2.2.2.2.2.1 R.2.2.2.2.2.2.1 R.2.2.2.2.2.2.2.1 R.2.2.2.2.2.2.2.2.1 R.2.2.2.2.2.2.2.2.2.1 R.2.2.2.2.2.2.2.2.2.2.1 R.2.2.2.2.2.2.2.2.2.2.2.1 R.2.2.2.2.2.2.2.2.2.2.2.2.1 R.2.2.2.2.2.2.2.2.2.2.2.2.2.1 R.2.2.2.2.2.2.2.2.2.2.2.2.2.2.1 R.2.2.2.2.2.2.2.2.2.2.2.2.2.2.2.1 R.2.2.2.2.2.2.2.2.2.2.2.2.2.2.2.2.1 R.2.2.2.2.2.2.2.2.2.2.2.2.2.2.2.2.2.1 R.2.2.2.2.2.2.2.2.2.2.2.2.2.2.2.2.2.2.1 R.2.2.2.2.2.2.2.2.2.2.2.2.2.2.2.2.2.2.2.1 R.2.2.2.2.2.2.2.2.2.2.2.2.2.2.2.2.2.2.2.2.1 R.2.2.2.2.2.2.2.2.2.2.2.2.2.2.2.2.2.2.2.2.2.1 R.2.2.2.2.2.2.2.2.2.2.2.2.2.2.2.2.2.2.2.2.2.2.1 R.2.2.2.2.2.2.2.2.2.2.2.2.2.2.2.2.2.2.2.2.2.2.2.1 R.2.2.2.2.2.2.2.2.2.2.2.2.2.2.2.2.2.2.2.2.2.2.2.2.1 R.2.2.2.2.2.2.2.2.2.2.2.2.2.2.2.2.2.2.2.2.2.2.2.2.2.1 R.2.2.2.2.2.2.2.2.2.2.2.2.2.2.2.2.2.2.2.2.2.2.2.2.2.2.1 R.2.2.2.2.2.2.2.2.2.2.2.2.2.2.2.2.2.2.2.2.2.2.2.2.2.2.2.1 R.2.2.2.2.2.2.2.2.2.2.2.2.2.2.2.2.2.2.2.2.2.2.2.2.2.2.2.2.1 R.2.2.2.2.2.2.2.2.2.2.2.2.2.2.2.2.2.2.2.2.2.2.2.2.2.2.2.2.2.1 R.2.2.2.2.2.2.2.2.2.2.2.2.2.2.2.2.2.2.2.2.2.2.2.2.2.2.2.2.2.2.1 R.2.2.2.2.2.2.2.2.2.2.2.2.2.2.2.2.2.2.2.2.2.2.2.2.2.2.2.2.2.2.2.1 R.2.2.2.2.2.2.2.2.2.2.2.2.2.2.2.2.2.2.2.2.2.2.2.2.2.2.2.2.2.2.2.2) ++ ((wX2 E a o1 c_r1_signs c_r1_count) ++ (wX6 E a o2 c_r2_keys c_r2_seed))))) : ∀ (n : Nat) (c_act_kind : Int32) (c_act_set : Int32) (c_act_key : Int32) (c_act_other : Int32) (c_tb_left : Nat → Int32) (c_tb_right : Nat → Int32) (c_tb_parent : Nat → Int32) (c_tb_span : Nat → Int64) (c_tb_root : Int32) (c_tb_digest : Nat → Int32) (c_tb_height : Nat → Int32) (c_tb_priority : Nat → Int32) (c_tb_pricedBy : Int32) (c_tb_open : Nat → Int32) (c_ta_left : Nat → Int32) (c_ta_right : Nat → Int32) (c_ta_parent : Nat → Int32) (c_ta_span : Nat → Int64) (c_ta_root : Int32) (c_ta_digest : Nat → Int32) (c_ta_height : Nat → Int32) (c_ta_priority : Nat → Int32) (c_ta_pricedBy : Int32) (c_ta_open : Nat → Int32) (c_after_keys : Nat → Int64) (c_after_seed : Int32) (c_before_keys : Nat → Int64) (c_before_seed : Int32) (c_acts : Int32) (c_whyNot : Int32) (c_work : Int32) (c_alikeAct : Int32) (c_alikePair : Int32) (l4 : Int32), L_X5_play_40 n c_act_kind c_act_set c_act_key c_act_other c_tb_left c_tb_right c_tb_parent c_tb_span c_tb_root c_tb_digest c_tb_height c_tb_priority c_tb_pricedBy c_tb_open c_ta_left c_ta_right c_ta_parent c_ta_span c_ta_root c_ta_digest c_ta_height c_ta_priority c_ta_pricedBy c_ta_open c_after_keys c_after_seed c_before_keys c_before_seed c_acts c_whyNot c_work c_alikeAct c_alikePair c_r1_signs c_r1_count l4 = some R → WW g E 5 0 0 ((wX5 E a o c_act_kind c_act_set c_act_key c_act_other c_tb_left c_tb_right c_tb_parent c_tb_span c_tb_root c_tb_digest c_tb_height c_tb_priority c_tb_pricedBy c_tb_open c_ta_left c_ta_right c_ta_parent c_ta_span c_ta_root c_ta_digest c_ta_height c_ta_priority c_ta_pricedBy c_ta_open c_after_keys c_after_seed c_before_keys c_before_seed c_acts c_whyNot c_work c_alikeAct c_alikePair) ++ ((wX2 E a o1 c_r1_signs c_r1_count) ++ (wX6 E a o2 c_r2_keys c_r2_seed))) [(0, .ref (a o)), (1, .ref (a o1)), (4, .int l4)] 40 [] := by
  intro n
  induction n with
  | zero => intro c_act_kind c_act_set c_act_key c_act_other c_tb_left c_tb_right c_tb_parent c_tb_span c_tb_root c_tb_digest c_tb_height c_tb_priority c_tb_pricedBy c_tb_open c_ta_left c_ta_right c_ta_parent c_ta_span c_ta_root c_ta_digest c_ta_height c_ta_priority c_ta_pricedBy c_ta_open c_after_keys c_after_seed c_before_keys c_before_seed c_acts c_whyNot c_work c_alikeAct c_alikePair l4 h; exact no_some h
  | succ n ih =>
    intro c_act_kind c_act_set c_act_key c_act_other c_tb_left c_tb_right c_tb_parent c_tb_span c_tb_root c_tb_digest c_tb_height c_tb_priority c_tb_pricedBy c_tb_open c_ta_left c_ta_right c_ta_parent c_ta_span c_ta_root c_ta_digest c_ta_height c_ta_priority c_ta_pricedBy c_ta_open c_after_keys c_after_seed c_before_keys c_before_seed c_acts c_whyNot c_work c_alikeAct c_alikePair l4 h
    rw [L_X5_play_40] at h
    refine w_iload (pc2 := 42) G 2 rfl dX5_play_40 rfl ?_
    refine w_aload_n (pc2 := 43) G 1 rfl dX5_play_42 rfl rfl ?_
    refine w_get (pc2 := 46) G foX5_58 24 rfl rfl dX5_play_43 rfl ?_
    refine w_icmp_ge (tgt := 136) (pc2 := 49) G dX5_play_46 (by decide) rfl (fun cc => ?_) (fun cc => ?_)
    · replace h := (if_pos cc).symm.trans h
      cases h
      exact w_vret G hQ rfl ⟨rfl, rfl⟩ dX5_play_136
    · replace h := (if_neg cc).symm.trans h
      refine w_aload_n (pc2 := 50) G 1 rfl dX5_play_49 rfl rfl ?_
      refine w_iload (pc2 := 52) G 2 rfl dX5_play_50 rfl ?_
      refine w_aload_n (pc2 := 53) G 0 rfl dX5_play_52 rfl rfl ?_
      refine w_get (pc2 := 56) G foX5_12 0 rfl rfl dX5_play_53 rfl ?_
      obtain ⟨x1, H_x1, h⟩ := bs h
      refine w_cV1 (pc2 := 59) (ws2 := ((wX5 E a o x1.2.1 x1.2.2.1 x1.2.2.2.1 x1.2.2.2.2 c_tb_left c_tb_right c_tb_parent c_tb_span c_tb_root c_tb_digest c_tb_height c_tb_priority c_tb_pricedBy c_tb_open c_ta_left c_ta_right c_ta_parent c_ta_span c_ta_root c_ta_digest c_ta_height c_ta_priority c_ta_pricedBy c_ta_open c_after_keys c_after_seed c_before_keys c_before_seed c_acts c_whyNot c_work c_alikeAct c_alikePair) ++ ((wX2 E a o1 c_r1_signs c_r1_count) ++ (wX6 E a o2 c_r2_keys c_r2_seed)))) (As := [.int l4, .ref (a (o + 1))]) (rest := []) G koX5_63 (r_X2_read (o := o1) (o1 := (o + 1)) H_x1) (Nat.le_of_ble_eq_true rfl) 2 rfl rfl [24, 25, 1] [0, 2, 3, 4, 5, 6, 7, 8, 9, 10, 11, 12, 13, 14, 15, 16, 17, 18, 19, 20, 21, 22, 23, 26, 27] [0, 27, 1, 2, 3, 4, 5, 6, 7, 8, 9, 10, 11, 12, 13, 14, 15, 16, 17, 18, 19, 20, 21, 22, 25, 26, 23, 24] rfl rfl rfl rfl rfl rfl rfl rfl rfl (Nat.le_of_ble_eq_true rfl) ⟨Nat.zero_le _, Nat.zero_le _⟩ dX5_play_56 rfl rfl ?_
      refine w_istore_n (pc2 := 60) (lv2 := [(3, .int x1.1), (0, .ref (a o)), (1, .ref (a o1)), (4, .int l4)]) G dX5_play_59 rfl (Nat.le_of_ble_eq_true rfl) rfl rfl ?_
      refine w_aload_n (pc2 := 61) G 1 rfl dX5_play_60 rfl rfl ?_
      refine w_aload_n (pc2 := 62) G 1 rfl dX5_play_61 rfl rfl ?_
      refine w_get (pc2 := 65) G foX5_31 0 rfl rfl dX5_play_62 rfl ?_
      refine w_aload_n (pc2 := 66) G 1 rfl dX5_play_65 rfl rfl ?_
      refine w_get (pc2 := 69) G foX5_12 0 rfl rfl dX5_play_66 rfl ?_
      obtain ⟨x2, H_x2, h⟩ := bs h
      refine w_cV1 (pc2 := 72) (ws2 := ((wX5 E a o x1.2.1 x1.2.2.1 x1.2.2.2.1 x1.2.2.2.2 c_tb_left c_tb_right c_tb_parent c_tb_span c_tb_root c_tb_digest c_tb_height c_tb_priority c_tb_pricedBy c_tb_open c_ta_left c_ta_right c_ta_parent c_ta_span c_ta_root c_ta_digest c_ta_height c_ta_priority c_ta_pricedBy c_ta_open c_after_keys c_after_seed c_before_keys c_before_seed c_acts c_whyNot c_work c_alikeAct c_alikePair) ++ ((wX2 E a o1 c_r1_signs c_r1_count) ++ (wX6 E a o2 c_r2_keys c_r2_seed)))) (As := [.ref (a (o + 1))]) (rest := [.ref (a o)]) G koX5_67 (r_X6_whyNot (o := (o + 20)) (o1 := (o + 1)) H_x2) (Nat.le_of_ble_eq_true rfl) 6 rfl rfl [20, 21, 1] [0, 2, 3, 4, 5, 6, 7, 8, 9, 10, 11, 12, 13, 14, 15, 16, 17, 18, 19, 22, 23, 24, 25, 26, 27] [0, 27, 1, 2, 3, 4, 5, 6, 7, 8, 9, 10, 11, 12, 13, 14, 15, 16, 17, 18, 25, 26, 19, 20, 21, 22, 23, 24] rfl rfl rfl rfl rfl rfl rfl rfl rfl (Nat.le_of_ble_eq_true rfl) ⟨Nat.zero_le _, Nat.zero_le _⟩ dX5_play_69 rfl rfl ?_
      refine w_put (pc2 := 75) (ws2 := ((wX5 E a o x1.2.1 x1.2.2.1 x1.2.2.2.1 x1.2.2.2.2 c_tb_left c_tb_right c_tb_parent c_tb_span c_tb_root c_tb_digest c_tb_height c_tb_priority c_tb_pricedBy c_tb_open c_ta_left c_ta_right c_ta_parent c_ta_span c_ta_root c_ta_digest c_ta_height c_ta_priority c_ta_pricedBy c_ta_open c_after_keys c_after_seed c_before_keys c_before_seed c_acts x2 c_work c_alikeAct c_alikePair) ++ ((wX2 E a o1 c_r1_signs c_r1_count) ++ (wX6 E a o2 c_r2_keys c_r2_seed)))) G foX5_49 tokX5 0 rfl rfl rfl rfl (Nat.le_of_ble_eq_true rfl) rfl dX5_play_72 rfl ?_
      refine w_aload_n (pc2 := 76) G 1 rfl dX5_play_75 rfl rfl ?_
      refine w_get (pc2 := 79) G foX5_49 0 rfl rfl dX5_play_76 rfl ?_
      refine w_if_eq (tgt := 83) (pc2 := 82) G dX5_play_79 (by decide) rfl (fun cc => ?_) (fun cc => ?_)
      · replace h := (if_pos cc).symm.trans h
        refine w_aload_n (pc2 := 84) G 1 rfl dX5_play_83 rfl rfl ?_
        refine w_get (pc2 := 87) G foX5_35 0 rfl rfl dX5_play_84 rfl ?_
        refine w_aload_n (pc2 := 88) G 1 rfl dX5_play_87 rfl rfl ?_
        refine w_get (pc2 := 91) G foX5_31 0 rfl rfl dX5_play_88 rfl ?_
        obtain ⟨x3, H_x3, h⟩ := bs h
        refine w_cV1 (pc2 := 94) (ws2 := ((wX5 E a o x1.2.1 x1.2.2.1 x1.2.2.2.1 x1.2.2.2.2 c_tb_left c_tb_right c_tb_parent c_tb_span c_tb_root c_tb_digest c_tb_height c_tb_priority c_tb_pricedBy c_tb_open c_ta_left c_ta_right c_ta_parent c_ta_span c_ta_root c_ta_digest c_ta_height c_ta_priority c_ta_pricedBy c_ta_open c_after_keys c_after_seed x3.1 x3.2 c_acts x2 c_work c_alikeAct c_alikePair) ++ ((wX2 E a o1 c_r1_signs c_r1_count) ++ (wX6 E a o2 c_r2_keys c_r2_seed)))) (As := [.ref (a (o + 20))]) (rest := []) G koX5_38 (r_X6_copy (o := (o + 22)) (o1 := (o + 20)) H_x3) (Nat.le_of_ble_eq_true rfl) 6 rfl rfl [22, 23, 20, 21] [0, 1, 2, 3, 4, 5, 6, 7, 8, 9, 10, 11, 12, 13, 14, 15, 16, 17, 18, 19, 24, 25, 26, 27] [0, 1, 2, 3, 4, 5, 6, 7, 8, 9, 10, 11, 12, 13, 14, 15, 16, 17, 18, 19, 26, 27, 24, 25, 20, 21, 22, 23] rfl rfl rfl rfl rfl rfl rfl rfl rfl (Nat.le_of_ble_eq_true rfl) ⟨Nat.zero_le _, Nat.zero_le _⟩ dX5_play_91 rfl rfl ?_
        refine w_aload_n (pc2 := 95) G 1 rfl dX5_play_94 rfl rfl ?_
        refine w_get (pc2 := 98) G foX5_31 0 rfl rfl dX5_play_95 rfl ?_
        refine w_aload_n (pc2 := 99) G 1 rfl dX5_play_98 rfl rfl ?_
        refine w_get (pc2 := 102) G foX5_12 0 rfl rfl dX5_play_99 rfl ?_
        obtain ⟨x4, H_x4, h⟩ := bs h
        refine w_cV1 (pc2 := 105) (ws2 := ((wX5 E a o x1.2.1 x1.2.2.1 x1.2.2.2.1 x1.2.2.2.2 c_tb_left c_tb_right c_tb_parent c_tb_span c_tb_root c_tb_digest c_tb_height c_tb_priority c_tb_pricedBy c_tb_open c_ta_left c_ta_right c_ta_parent c_ta_span c_ta_root c_ta_digest c_ta_height c_ta_priority c_ta_pricedBy c_ta_open x4.1 x4.2 x3.1 x3.2 c_acts x2 c_work c_alikeAct c_alikePair) ++ ((wX2 E a o1 c_r1_signs c_r1_count) ++ (wX6 E a o2 c_r2_keys c_r2_seed)))) (As := [.ref (a (o + 1))]) (rest := []) G koX5_70 (r_X6_play (o := (o + 20)) (o1 := (o + 1)) H_x4) (Nat.le_of_ble_eq_true rfl) 6 rfl rfl [20, 21, 1] [0, 2, 3, 4, 5, 6, 7, 8, 9, 10, 11, 12, 13, 14, 15, 16, 17, 18, 19, 22, 23, 24, 25, 26, 27] [0, 27, 1, 2, 3, 4, 5, 6, 7, 8, 9, 10, 11, 12, 13, 14, 15, 16, 17, 18, 25, 26, 19, 20, 21, 22, 23, 24] rfl rfl rfl rfl rfl rfl rfl rfl rfl (Nat.le_of_ble_eq_true rfl) ⟨Nat.zero_le _, Nat.zero_le _⟩ dX5_play_102 rfl rfl ?_
        refine w_aload_n (pc2 := 106) G 1 rfl dX5_play_105 rfl rfl ?_
        obtain ⟨x5, H_x5, h⟩ := bs h
        refine w_cV1 (pc2 := 109) (ws2 := ((wX5 E a o x1.2.1 x1.2.2.1 x1.2.2.2.1 x1.2.2.2.2 x5.1 x5.2.1 x5.2.2.1 x5.2.2.2.1 x5.2.2.2.2.1 x5.2.2.2.2.2.1 x5.2.2.2.2.2.2.1 x5.2.2.2.2.2.2.2.1 x5.2.2.2.2.2.2.2.2.1 x5.2.2.2.2.2.2.2.2.2.1 x5.2.2.2.2.2.2.2.2.2.2.1 x5.2.2.2.2.2.2.2.2.2.2.2.1 x5.2.2.2.2.2.2.2.2.2.2.2.2.1 x5.2.2.2.2.2.2.2.2.2.2.2.2.2.1 x5.2.2.2.2.2.2.2.2.2.2.2.2.2.2.1 x5.2.2.2.2.2.2.2.2.2.2.2.2.2.2.2.1 x5.2.2.2.2.2.2.2.2.2.2.2.2.2.2.2.2.1 x5.2.2.2.2.2.2.2.2.2.2.2.2.2.2.2.2.2.1 x5.2.2.2.2.2.2.2.2.2.2.2.2.2.2.2.2.2.2.1 x5.2.2.2.2.2.2.2.2.2.2.2.2.2.2.2.2.2.2.2.1 x4.1 x4.2 x3.1 x3.2 c_acts x2 x5.2.2.2.2.2.2.2.2.2.2.2.2.2.2.2.2.2.2.2.2 c_alikeAct c_alikePair) ++ ((wX2 E a o1 c_r1_signs c_r1_count) ++ (wX6 E a o2 c_r2_keys c_r2_seed)))) (As := []) (rest := []) G koX5_74 (r_X5_addWork (o := o) H_x5) (Nat.le_of_ble_eq_true rfl) 5 rfl rfl [0, 1, 2, 3, 4, 5, 6, 7, 8, 9, 10, 11, 12, 13, 14, 15, 16, 17, 18, 19, 20, 21, 22, 23] [24, 25, 26, 27] [4, 5, 6, 7, 8, 9, 10, 11, 12, 13, 14, 15, 16, 17, 18, 19, 20, 21, 22, 23, 24, 25, 26, 27, 0, 1, 2, 3] rfl rfl rfl rfl rfl rfl rfl rfl rfl (Nat.le_of_ble_eq_true rfl) ⟨Nat.zero_le _, Nat.zero_le _⟩ dX5_play_106 rfl rfl ?_
        refine w_aload_n (pc2 := 110) G 1 rfl dX5_play_109 rfl rfl ?_
        obtain ⟨x6, H_x6, h⟩ := bs h
        refine w_cV1 (pc2 := 113) (ws2 := ((wX5 E a o x1.2.1 x1.2.2.1 x1.2.2.2.1 x1.2.2.2.2 x5.1 x5.2.1 x5.2.2.1 x5.2.2.2.1 x5.2.2.2.2.1 x5.2.2.2.2.2.1 x5.2.2.2.2.2.2.1 x5.2.2.2.2.2.2.2.1 x5.2.2.2.2.2.2.2.2.1 x5.2.2.2.2.2.2.2.2.2.1 x5.2.2.2.2.2.2.2.2.2.2.1 x5.2.2.2.2.2.2.2.2.2.2.2.1 x5.2.2.2.2.2.2.2.2.2.2.2.2.1 x5.2.2.2.2.2.2.2.2.2.2.2.2.2.1 x5.2.2.2.2.2.2.2.2.2.2.2.2.2.2.1 x5.2.2.2.2.2.2.2.2.2.2.2.2.2.2.2.1 x5.2.2.2.2.2.2.2.2.2.2.2.2.2.2.2.2.1 x5.2.2.2.2.2.2.2.2.2.2.2.2.2.2.2.2.2.1 x5.2.2.2.2.2.2.2.2.2.2.2.2.2.2.2.2.2.2.1 x5.2.2.2.2.2.2.2.2.2.2.2.2.2.2.2.2.2.2.2.1 x4.1 x4.2 x3.1 x3.2 c_acts x2 x5.2.2.2.2.2.2.2.2.2.2.2.2.2.2.2.2.2.2.2.2 x6.1 x6.2) ++ ((wX2 E a o1 c_r1_signs c_r1_count) ++ (wX6 E a o2 c_r2_keys c_r2_seed)))) (As := []) (rest := []) G koX5_77 (r_X5_seekAlike (o := o) H_x6) (Nat.le_of_ble_eq_true rfl) 5 rfl rfl [0, 1, 2, 3, 4, 5, 6, 7, 8, 9, 10, 11, 12, 13, 14, 15, 16, 17, 18, 19, 20, 21, 22, 23] [24, 25, 26, 27] [4, 5, 6, 7, 8, 9, 10, 11, 12, 13, 14, 15, 16, 17, 18, 19, 20, 21, 22, 23, 24, 25, 26, 27, 0, 1, 2, 3] rfl rfl rfl rfl rfl rfl rfl rfl rfl (Nat.le_of_ble_eq_true rfl) ⟨Nat.zero_le _, Nat.zero_le _⟩ dX5_play_110 rfl rfl ?_
        refine w_aload_n (pc2 := 114) G 1 rfl dX5_play_113 rfl rfl ?_
        refine w_dup (pc2 := 115) G dX5_play_114 rfl rfl ?_
        refine w_get (pc2 := 118) G foX5_42 0 rfl rfl dX5_play_115 rfl ?_
        refine w_iconst (pc2 := 119) G dX5_play_118 k_iconst_1 rfl ?_
        refine w_iadd (pc2 := 120) G dX5_play_119 rfl ?_
        refine w_put (pc2 := 123) (ws2 := ((wX5 E a o x1.2.1 x1.2.2.1 x1.2.2.2.1 x1.2.2.2.2 x5.1 x5.2.1 x5.2.2.1 x5.2.2.2.1 x5.2.2.2.2.1 x5.2.2.2.2.2.1 x5.2.2.2.2.2.2.1 x5.2.2.2.2.2.2.2.1 x5.2.2.2.2.2.2.2.2.1 x5.2.2.2.2.2.2.2.2.2.1 x5.2.2.2.2.2.2.2.2.2.2.1 x5.2.2.2.2.2.2.2.2.2.2.2.1 x5.2.2.2.2.2.2.2.2.2.2.2.2.1 x5.2.2.2.2.2.2.2.2.2.2.2.2.2.1 x5.2.2.2.2.2.2.2.2.2.2.2.2.2.2.1 x5.2.2.2.2.2.2.2.2.2.2.2.2.2.2.2.1 x5.2.2.2.2.2.2.2.2.2.2.2.2.2.2.2.2.1 x5.2.2.2.2.2.2.2.2.2.2.2.2.2.2.2.2.2.1 x5.2.2.2.2.2.2.2.2.2.2.2.2.2.2.2.2.2.2.1 x5.2.2.2.2.2.2.2.2.2.2.2.2.2.2.2.2.2.2.2.1 x4.1 x4.2 x3.1 x3.2 (c_acts + (1 : Int32)) x2 x5.2.2.2.2.2.2.2.2.2.2.2.2.2.2.2.2.2.2.2.2 x6.1 x6.2) ++ ((wX2 E a o1 c_r1_signs c_r1_count) ++ (wX6 E a o2 c_r2_keys c_r2_seed)))) G foX5_42 tokX5 0 rfl rfl rfl rfl (Nat.le_of_ble_eq_true rfl) rfl dX5_play_120 rfl ?_
        refine w_iload (pc2 := 125) G 3 rfl dX5_play_123 rfl ?_
        refine w_iconst (pc2 := 126) G dX5_play_125 k_iconst_1 rfl ?_
        refine w_iload_n (pc2 := 127) G 0 rfl dX5_play_126 rfl rfl ?_
        refine w_mmax (pc2 := 130) G wd_102 wd_55 wd_56 mc_max (Nat.le_of_ble_eq_true rfl) (Nat.zero_le _) (Nat.zero_le _) (Nat.le_of_ble_eq_true rfl) dX5_play_127 rfl ?_
        refine w_iadd (pc2 := 131) G dX5_play_130 rfl ?_
        refine w_istore (pc2 := 133) (lv2 := [(4, .int (l4 + (if (1 : Int32) < x1.1 then x1.1 else (1 : Int32)))), (3, .int x1.1), (0, .ref (a o)), (1, .ref (a o1))]) G dX5_play_131 (Nat.le_of_ble_eq_true rfl) rfl rfl ?_
        refine w_goto (tgt := 40) G dX5_play_133 (by decide) ?_
        exact w_lv [2, 3, 0] rfl (ih _ _ _ _ _ _ _ _ _ _ _ _ _ _ _ _ _ _ _ _ _ _ _ _ _ _ _ _ _ _ _ _ _ _ h )
      · replace h := (if_neg cc).symm.trans h
        cases h
        exact w_vret G hQ rfl ⟨rfl, rfl⟩ dX5_play_82
set_option maxHeartbeats 4000000 in
set_option maxRecDepth 100000 in
theorem r_X5_play {l : Launch} {E : EV} {a : Nat → Nat} {o o1 o2 : Nat} {c_act_kind c_act_set c_act_key c_act_other : Int32} {c_tb_left c_tb_right c_tb_parent : Nat → Int32} {c_tb_span : Nat → Int64} {c_tb_root : Int32} {c_tb_digest c_tb_height c_tb_priority : Nat → Int32} {c_tb_pricedBy : Int32} {c_tb_open c_ta_left c_ta_right c_ta_parent : Nat → Int32} {c_ta_span : Nat → Int64} {c_ta_root : Int32} {c_ta_digest c_ta_height c_ta_priority : Nat → Int32} {c_ta_pricedBy : Int32} {c_ta_open : Nat → Int32} {c_after_keys : Nat → Int64} {c_after_seed : Int32} {c_before_keys : Nat → Int64} {c_before_seed c_acts c_whyNot c_work c_alikeAct c_alikePair : Int32} {c_r1_signs : Nat → Int32} {c_r1_count : Int32} {c_r2_keys : Nat → Int64} {c_r2_seed : Int32}  {R : Int32 × Int32 × Int32 × Int32 × (Nat → Int32) × (Nat → Int32) × (Nat → Int32) × (Nat → Int64) × Int32 × (Nat → Int32) × (Nat → Int32) × (Nat → Int32) × Int32 × (Nat → Int32) × (Nat → Int32) × (Nat → Int32) × (Nat → Int32) × (Nat → Int64) × Int32 × (Nat → Int32) × (Nat → Int32) × (Nat → Int32) × Int32 × (Nat → Int32) × (Nat → Int64) × Int32 × (Nat → Int64) × Int32 × Int32 × Int32 × Int32 × Int32 × Int32} (h : f_X5_play c_act_kind c_act_set c_act_key c_act_other c_tb_left c_tb_right c_tb_parent c_tb_span c_tb_root c_tb_digest c_tb_height c_tb_priority c_tb_pricedBy c_tb_open c_ta_left c_ta_right c_ta_parent c_ta_span c_ta_root c_ta_digest c_ta_height c_ta_priority c_ta_pricedBy c_ta_open c_after_keys c_after_seed c_before_keys c_before_seed c_acts c_whyNot c_work c_alikeAct c_alikePair c_r1_signs c_r1_count c_r2_keys c_r2_seed = some R) : Ret1 l E yX5_play cX5_play 5 none 4 ((wX5 E a o c_act_kind c_act_set c_act_key c_act_other c_tb_left c_tb_right c_tb_parent c_tb_span c_tb_root c_tb_digest c_tb_height c_tb_priority c_tb_pricedBy c_tb_open c_ta_left c_ta_right c_ta_parent c_ta_span c_ta_root c_ta_digest c_ta_height c_ta_priority c_ta_pricedBy c_ta_open c_after_keys c_after_seed c_before_keys c_before_seed c_acts c_whyNot c_work c_alikeAct c_alikePair) ++ ((wX2 E a o1 c_r1_signs c_r1_count) ++ (wX6 E a o2 c_r2_keys c_r2_seed))) [.ref (a o), .ref (a o1), .ref (a o2)] none ((wX5 E a o R.1 R.2.1 R.2.2.1 R.2.2.2.1 R.2.2.2.2.1 R.2.2.2.2.2.1 R.2.2.2.2.2.2.1 R.2.2.2.2.2.2.2.1 R.2.2.2.2.2.2.2.2.1 R.2.2.2.2.2.2.2.2.2.1 R.2.2.2.2.2.2.2.2.2.2.1 R.2.2.2.2.2.2.2.2.2.2.2.1 R.2.2.2.2.2.2.2.2.2.2.2.2.1 R.2.2.2.2.2.2.2.2.2.2.2.2.2.1 R.2.2.2.2.2.2.2.2.2.2.2.2.2.2.1 R.2.2.2.2.2.2.2.2.2.2.2.2.2.2.2.1 R.2.2.2.2.2.2.2.2.2.2.2.2.2.2.2.2.1 R.2.2.2.2.2.2.2.2.2.2.2.2.2.2.2.2.2.1 R.2.2.2.2.2.2.2.2.2.2.2.2.2.2.2.2.2.2.1 R.2.2.2.2.2.2.2.2.2.2.2.2.2.2.2.2.2.2.2.1 R.2.2.2.2.2.2.2.2.2.2.2.2.2.2.2.2.2.2.2.2.1 R.2.2.2.2.2.2.2.2.2.2.2.2.2.2.2.2.2.2.2.2.2.1 R.2.2.2.2.2.2.2.2.2.2.2.2.2.2.2.2.2.2.2.2.2.2.1 R.2.2.2.2.2.2.2.2.2.2.2.2.2.2.2.2.2.2.2.2.2.2.2.1 R.2.2.2.2.2.2.2.2.2.2.2.2.2.2.2.2.2.2.2.2.2.2.2.2.1 R.2.2.2.2.2.2.2.2.2.2.2.2.2.2.2.2.2.2.2.2.2.2.2.2.2.1 R.2.2.2.2.2.2.2.2.2.2.2.2.2.2.2.2.2.2.2.2.2.2.2.2.2.2.1 R.2.2.2.2.2.2.2.2.2.2.2.2.2.2.2.2.2.2.2.2.2.2.2.2.2.2.2.1 R.2.2.2.2.2.2.2.2.2.2.2.2.2.2.2.2.2.2.2.2.2.2.2.2.2.2.2.2.1 R.2.2.2.2.2.2.2.2.2.2.2.2.2.2.2.2.2.2.2.2.2.2.2.2.2.2.2.2.2.1 R.2.2.2.2.2.2.2.2.2.2.2.2.2.2.2.2.2.2.2.2.2.2.2.2.2.2.2.2.2.2.1 R.2.2.2.2.2.2.2.2.2.2.2.2.2.2.2.2.2.2.2.2.2.2.2.2.2.2.2.2.2.2.2.1 R.2.2.2.2.2.2.2.2.2.2.2.2.2.2.2.2.2.2.2.2.2.2.2.2.2.2.2.2.2.2.2.2) ++ ((wX2 E a o1 c_r1_signs c_r1_count) ++ (wX6 E a o2 c_r2_keys c_r2_seed))) := by
  refine Ret.intro (lv := [(0, .ref (a o)), (1, .ref (a o1)), (2, .ref (a o2))]) (by decide) (Nat.le_of_ble_eq_true rfl) rfl ?_
  intro g hgl G hQ
  subst hgl
  rw [f_X5_play] at h
  refine w_aload_n (pc2 := 1) G 0 rfl dX5_play_0 rfl rfl ?_
  refine w_get (pc2 := 4) G foX5_31 0 rfl rfl dX5_play_1 rfl ?_
  refine w_aload_n (pc2 := 5) G 2 rfl dX5_play_4 rfl rfl ?_
  obtain ⟨x1, H_x1, h⟩ := bs h
  refine w_cV1 (pc2 := 8) (ws2 := ((wX5 E a o c_act_kind c_act_set c_act_key c_act_other c_tb_left c_tb_right c_tb_parent c_tb_span c_tb_root c_tb_digest c_tb_height c_tb_priority c_tb_pricedBy c_tb_open c_ta_left c_ta_right c_ta_parent c_ta_span c_ta_root c_ta_digest c_ta_height c_ta_priority c_ta_pricedBy c_ta_open x1.1 x1.2 c_before_keys c_before_seed c_acts c_whyNot c_work c_alikeAct c_alikePair) ++ ((wX2 E a o1 c_r1_signs c_r1_count) ++ (wX6 E a o2 c_r2_keys c_r2_seed)))) (As := [.ref (a o2)]) (rest := []) G koX5_38 (r_X6_copy (o := (o + 20)) (o1 := o2) H_x1) (Nat.le_of_ble_eq_true rfl) 6 rfl rfl [20, 21, 26, 27] [0, 1, 2, 3, 4, 5, 6, 7, 8, 9, 10, 11, 12, 13, 14, 15, 16, 17, 18, 19, 22, 23, 24, 25] [0, 1, 2, 3, 4, 5, 6, 7, 8, 9, 10, 11, 12, 13, 14, 15, 16, 17, 18, 19, 24, 25, 20, 21, 22, 23, 26, 27] rfl rfl rfl rfl rfl rfl rfl rfl rfl (Nat.le_of_ble_eq_true rfl) ⟨Nat.zero_le _, Nat.zero_le _⟩ dX5_play_5 rfl rfl ?_
  refine w_aload_n (pc2 := 9) G 0 rfl dX5_play_8 rfl rfl ?_
  refine w_iconst (pc2 := 10) G dX5_play_9 k_iconst_0 rfl ?_
  refine w_put (pc2 := 13) (ws2 := ((wX5 E a o c_act_kind c_act_set c_act_key c_act_other c_tb_left c_tb_right c_tb_parent c_tb_span c_tb_root c_tb_digest c_tb_height c_tb_priority c_tb_pricedBy c_tb_open c_ta_left c_ta_right c_ta_parent c_ta_span c_ta_root c_ta_digest c_ta_height c_ta_priority c_ta_pricedBy c_ta_open x1.1 x1.2 c_before_keys c_before_seed (0 : Int32) c_whyNot c_work c_alikeAct c_alikePair) ++ ((wX2 E a o1 c_r1_signs c_r1_count) ++ (wX6 E a o2 c_r2_keys c_r2_seed)))) G foX5_42 tokX5 0 rfl rfl rfl rfl (Nat.le_of_ble_eq_true rfl) rfl dX5_play_10 rfl ?_
  refine w_aload_n (pc2 := 14) G 0 rfl dX5_play_13 rfl rfl ?_
  refine w_iconst (pc2 := 15) G dX5_play_14 k_iconst_0 rfl ?_
  refine w_put (pc2 := 18) (ws2 := ((wX5 E a o c_act_kind c_act_set c_act_key c_act_other c_tb_left c_tb_right c_tb_parent c_tb_span c_tb_root c_tb_digest c_tb_height c_tb_priority c_tb_pricedBy c_tb_open c_ta_left c_ta_right c_ta_parent c_ta_span c_ta_root c_ta_digest c_ta_height c_ta_priority c_ta_pricedBy c_ta_open x1.1 x1.2 c_before_keys c_before_seed (0 : Int32) c_whyNot (0 : Int32) c_alikeAct c_alikePair) ++ ((wX2 E a o1 c_r1_signs c_r1_count) ++ (wX6 E a o2 c_r2_keys c_r2_seed)))) G foX5_46 tokX5 0 rfl rfl rfl rfl (Nat.le_of_ble_eq_true rfl) rfl dX5_play_15 rfl ?_
  refine w_aload_n (pc2 := 19) G 0 rfl dX5_play_18 rfl rfl ?_
  refine w_iconst (pc2 := 20) G dX5_play_19 k_iconst_0 rfl ?_
  refine w_put (pc2 := 23) (ws2 := ((wX5 E a o c_act_kind c_act_set c_act_key c_act_other c_tb_left c_tb_right c_tb_parent c_tb_span c_tb_root c_tb_digest c_tb_height c_tb_priority c_tb_pricedBy c_tb_open c_ta_left c_ta_right c_ta_parent c_ta_span c_ta_root c_ta_digest c_ta_height c_ta_priority c_ta_pricedBy c_ta_open x1.1 x1.2 c_before_keys c_before_seed (0 : Int32) (0 : Int32) (0 : Int32) c_alikeAct c_alikePair) ++ ((wX2 E a o1 c_r1_signs c_r1_count) ++ (wX6 E a o2 c_r2_keys c_r2_seed)))) G foX5_49 tokX5 0 rfl rfl rfl rfl (Nat.le_of_ble_eq_true rfl) rfl dX5_play_20 rfl ?_
  refine w_aload_n (pc2 := 24) G 0 rfl dX5_play_23 rfl rfl ?_
  refine w_bipush (pc2 := 26) G dX5_play_24 k_bipush_m6 rfl ?_
  refine w_put (pc2 := 29) (ws2 := ((wX5 E a o c_act_kind c_act_set c_act_key c_act_other c_tb_left c_tb_right c_tb_parent c_tb_span c_tb_root c_tb_digest c_tb_height c_tb_priority c_tb_pricedBy c_tb_open c_ta_left c_ta_right c_ta_parent c_ta_span c_ta_root c_ta_digest c_ta_height c_ta_priority c_ta_pricedBy c_ta_open x1.1 x1.2 c_before_keys c_before_seed (0 : Int32) (0 : Int32) (0 : Int32) (-6 : Int32) c_alikePair) ++ ((wX2 E a o1 c_r1_signs c_r1_count) ++ (wX6 E a o2 c_r2_keys c_r2_seed)))) G foX5_52 tokX5 0 rfl rfl rfl rfl (Nat.le_of_ble_eq_true rfl) rfl dX5_play_26 rfl ?_
  refine w_aload_n (pc2 := 30) G 0 rfl dX5_play_29 rfl rfl ?_
  refine w_bipush (pc2 := 32) G dX5_play_30 k_bipush_m6 rfl ?_
  refine w_put (pc2 := 35) (ws2 := ((wX5 E a o c_act_kind c_act_set c_act_key c_act_other c_tb_left c_tb_right c_tb_parent c_tb_span c_tb_root c_tb_digest c_tb_height c_tb_priority c_tb_pricedBy c_tb_open c_ta_left c_ta_right c_ta_parent c_ta_span c_ta_root c_ta_digest c_ta_height c_ta_priority c_ta_pricedBy c_ta_open x1.1 x1.2 c_before_keys c_before_seed (0 : Int32) (0 : Int32) (0 : Int32) (-6 : Int32) (-6 : Int32)) ++ ((wX2 E a o1 c_r1_signs c_r1_count) ++ (wX6 E a o2 c_r2_keys c_r2_seed)))) G foX5_55 tokX5 0 rfl rfl rfl rfl (Nat.le_of_ble_eq_true rfl) rfl dX5_play_32 rfl ?_
  refine w_iconst (pc2 := 36) G dX5_play_35 k_iconst_0 rfl ?_
  refine w_istore_n (pc2 := 37) (lv2 := [(3, .int (0 : Int32)), (0, .ref (a o)), (1, .ref (a o1)), (2, .ref (a o2))]) G dX5_play_36 rfl (Nat.le_of_ble_eq_true rfl) rfl rfl ?_
  refine w_iconst (pc2 := 38) G dX5_play_37 k_iconst_0 rfl ?_
  refine w_istore (pc2 := 40) (lv2 := [(4, .int (0 : Int32)), (3, .int (0 : Int32)), (0, .ref (a o)), (1, .ref (a o1)), (2, .ref (a o2))]) G dX5_play_38 (Nat.le_of_ble_eq_true rfl) rfl rfl ?_
  exact w_lv [2, 3, 0] rfl (lp_X5_play_40 G hQ 20000 _ _ _ _ _ _ _ _ _ _ _ _ _ _ _ _ _ _ _ _ _ _ _ _ _ _ _ _ _ _ _ _ _ _ h)
