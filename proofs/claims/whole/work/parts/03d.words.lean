def wX0 (E : EV) (a : Nat → Nat) (o : Nat) (c_kind c_set c_key c_other : Int32) : va_W := [(a o, .inr (0, [.int c_kind, .int c_set, .int c_key, .int c_other]))]
theorem gdX0 : (u_ws RX0 TX0 4).all goodWord = true := by decide +kernel
theorem tokX0 : TOK TX0 4 tyX0 := ⟨tyX0_ok, nmX0⟩
def wX1 (E : EV) (a : Nat → Nat) (o : Nat) (c_kept : Int32) (c_world_keys : Nat → Int64) (c_world_seed c_sights_count : Int32) (c_sights_seeds : Nat → Int64) : va_W := [(a o, .inr (1, [.int c_kept, .ref (a (o + 1)), .ref (a (o + 3))])), (a (o + 1), .inr (6, [.ref (a (o + 2)), .int c_world_seed])), (a (o + 2), .inl (E.2.2.1, 4, .inr (.inl c_world_keys))), (a (o + 3), .inr (3, [.int c_sights_count, .ref (a (o + 4))])), (a (o + 4), .inl (E.2.2.1, 157, .inr (.inl c_sights_seeds)))]
theorem gdX1 : (u_ws RX1 TX1 3).all goodWord = true := by decide +kernel
theorem tokX1 : TOK TX1 3 tyX1 := ⟨tyX1_ok, nmX1⟩
def wX2 (E : EV) (a : Nat → Nat) (o : Nat) (c_signs : Nat → Int32) (c_count : Int32) : va_W := [(a o, .inr (2, [.ref (a (o + 1)), .int c_count])), (a (o + 1), .inl (E.2.1, 60, .inl c_signs))]
theorem gdX2 : (u_ws RX2 TX2 2).all goodWord = true := by decide +kernel
theorem tokX2 : TOK TX2 2 tyX2 := ⟨tyX2_ok, nmX2⟩
def wX3 (E : EV) (a : Nat → Nat) (o : Nat) (c_count : Int32) (c_seeds : Nat → Int64) : va_W := [(a o, .inr (3, [.int c_count, .ref (a (o + 1))])), (a (o + 1), .inl (E.2.2.1, 157, .inr (.inl c_seeds)))]
theorem gdX3 : (u_ws RX3 TX3 2).all goodWord = true := by decide +kernel
theorem tokX3 : TOK TX3 2 tyX3 := ⟨tyX3_ok, nmX3⟩
def wX4 (E : EV) (a : Nat → Nat) (o : Nat) (c_left c_right c_parent : Nat → Int32) (c_span : Nat → Int64) (c_root : Int32) (c_digest c_height c_priority : Nat → Int32) (c_pricedBy : Int32) (c_open : Nat → Int32) : va_W := [(a o, .inr (4, [.ref (a (o + 1)), .ref (a (o + 2)), .ref (a (o + 3)), .ref (a (o + 4)), .int c_root, .ref (a (o + 5)), .ref (a (o + 6)), .ref (a (o + 7)), .int c_pricedBy, .ref (a (o + 8))])), (a (o + 1), .inl (E.2.1, 50, .inl c_left)), (a (o + 2), .inl (E.2.1, 50, .inl c_right)), (a (o + 3), .inl (E.2.1, 50, .inl c_parent)), (a (o + 4), .inl (E.2.2.1, 50, .inr (.inl c_span))), (a (o + 5), .inl (E.2.1, 50, .inl c_digest)), (a (o + 6), .inl (E.2.1, 50, .inl c_height)), (a (o + 7), .inl (E.2.1, 50, .inl c_priority)), (a (o + 8), .inl (E.2.1, 50, .inl c_open))]
theorem gdX4 : (u_ws RX4 TX4 10).all goodWord = true := by decide +kernel
theorem tokX4 : TOK TX4 10 tyX4 := ⟨tyX4_ok, nmX4⟩
def wX5 (E : EV) (a : Nat → Nat) (o : Nat) (c_act_kind c_act_set c_act_key c_act_other : Int32) (c_tb_left c_tb_right c_tb_parent : Nat → Int32) (c_tb_span : Nat → Int64) (c_tb_root : Int32) (c_tb_digest c_tb_height c_tb_priority : Nat → Int32) (c_tb_pricedBy : Int32) (c_tb_open c_ta_left c_ta_right c_ta_parent : Nat → Int32) (c_ta_span : Nat → Int64) (c_ta_root : Int32) (c_ta_digest c_ta_height c_ta_priority : Nat → Int32) (c_ta_pricedBy : Int32) (c_ta_open : Nat → Int32) (c_after_keys : Nat → Int64) (c_after_seed : Int32) (c_before_keys : Nat → Int64) (c_before_seed c_acts c_whyNot c_work c_alikeAct c_alikePair : Int32) : va_W := [(a o, .inr (5, [.ref (a (o + 1)), .ref (a (o + 2)), .ref (a (o + 11)), .ref (a (o + 20)), .ref (a (o + 22)), .int c_acts, .int c_whyNot, .int c_work, .int c_alikeAct, .int c_alikePair])), (a (o + 1), .inr (0, [.int c_act_kind, .int c_act_set, .int c_act_key, .int c_act_other])), (a (o + 2), .inr (4, [.ref (a (o + 3)), .ref (a (o + 4)), .ref (a (o + 5)), .ref (a (o + 6)), .int c_tb_root, .ref (a (o + 7)), .ref (a (o + 8)), .ref (a (o + 9)), .int c_tb_pricedBy, .ref (a (o + 10))])), (a (o + 3), .inl (E.2.1, 50, .inl c_tb_left)), (a (o + 4), .inl (E.2.1, 50, .inl c_tb_right)), (a (o + 5), .inl (E.2.1, 50, .inl c_tb_parent)), (a (o + 6), .inl (E.2.2.1, 50, .inr (.inl c_tb_span))), (a (o + 7), .inl (E.2.1, 50, .inl c_tb_digest)), (a (o + 8), .inl (E.2.1, 50, .inl c_tb_height)), (a (o + 9), .inl (E.2.1, 50, .inl c_tb_priority)), (a (o + 10), .inl (E.2.1, 50, .inl c_tb_open)), (a (o + 11), .inr (4, [.ref (a (o + 12)), .ref (a (o + 13)), .ref (a (o + 14)), .ref (a (o + 15)), .int c_ta_root, .ref (a (o + 16)), .ref (a (o + 17)), .ref (a (o + 18)), .int c_ta_pricedBy, .ref (a (o + 19))])), (a (o + 12), .inl (E.2.1, 50, .inl c_ta_left)), (a (o + 13), .inl (E.2.1, 50, .inl c_ta_right)), (a (o + 14), .inl (E.2.1, 50, .inl c_ta_parent)), (a (o + 15), .inl (E.2.2.1, 50, .inr (.inl c_ta_span))), (a (o + 16), .inl (E.2.1, 50, .inl c_ta_digest)), (a (o + 17), .inl (E.2.1, 50, .inl c_ta_height)), (a (o + 18), .inl (E.2.1, 50, .inl c_ta_priority)), (a (o + 19), .inl (E.2.1, 50, .inl c_ta_open)), (a (o + 20), .inr (6, [.ref (a (o + 21)), .int c_after_seed])), (a (o + 21), .inl (E.2.2.1, 4, .inr (.inl c_after_keys))), (a (o + 22), .inr (6, [.ref (a (o + 23)), .int c_before_seed])), (a (o + 23), .inl (E.2.2.1, 4, .inr (.inl c_before_keys)))]
theorem gdX5 : (u_ws RX5 TX5 10).all goodWord = true := by decide +kernel
theorem tokX5 : TOK TX5 10 tyX5 := ⟨tyX5_ok, nmX5⟩
def wX6 (E : EV) (a : Nat → Nat) (o : Nat) (c_keys : Nat → Int64) (c_seed : Int32) : va_W := [(a o, .inr (6, [.ref (a (o + 1)), .int c_seed])), (a (o + 1), .inl (E.2.2.1, 4, .inr (.inl c_keys)))]
theorem gdX6 : (u_ws RX6 TX6 2).all goodWord = true := by decide +kernel
theorem tokX6 : TOK TX6 2 tyX6 := ⟨tyX6_ok, nmX6⟩
def wX7 (E : EV) (a : Nat → Nat) (o : Nat) (c_now_keys : Nat → Int64) (c_now_seed : Int32) (c_drawn_keys : Nat → Int64) (c_drawn_seed : Int32) (c_pad_signs : Nat → Int32) (c_pad_count c_sights_count : Int32) (c_sights_seeds : Nat → Int64) (c_img0_kept : Int32) (c_img0_world_keys : Nat → Int64) (c_img0_world_seed c_img0_sights_count : Int32) (c_img0_sights_seeds : Nat → Int64) (c_img1_kept : Int32) (c_img1_world_keys : Nat → Int64) (c_img1_world_seed c_img1_sights_count : Int32) (c_img1_sights_seeds : Nat → Int64) (c_trial_act_kind c_trial_act_set c_trial_act_key c_trial_act_other : Int32) (c_trial_tb_left c_trial_tb_right c_trial_tb_parent : Nat → Int32) (c_trial_tb_span : Nat → Int64) (c_trial_tb_root : Int32) (c_trial_tb_digest c_trial_tb_height c_trial_tb_priority : Nat → Int32) (c_trial_tb_pricedBy : Int32) (c_trial_tb_open c_trial_ta_left c_trial_ta_right c_trial_ta_parent : Nat → Int32) (c_trial_ta_span : Nat → Int64) (c_trial_ta_root : Int32) (c_trial_ta_digest c_trial_ta_height c_trial_ta_priority : Nat → Int32) (c_trial_ta_pricedBy : Int32) (c_trial_ta_open : Nat → Int32) (c_trial_after_keys : Nat → Int64) (c_trial_after_seed : Int32) (c_trial_before_keys : Nat → Int64) (c_trial_before_seed c_trial_acts c_trial_whyNot c_trial_work c_trial_alikeAct c_trial_alikePair : Int32) : va_W := [(a o, .inr (7, [.ref (a (o + 1)), .ref (a (o + 3)), .ref (a (o + 5)), .ref (a (o + 7)), .ref (a (o + 9)), .ref (a (o + 20)), .ref (a (o + 21)), .ref (a (o + 22)), .ref (a (o + 31))])), (a (o + 1), .inr (6, [.ref (a (o + 2)), .int c_now_seed])), (a (o + 2), .inl (E.2.2.1, 4, .inr (.inl c_now_keys))), (a (o + 3), .inr (6, [.ref (a (o + 4)), .int c_drawn_seed])), (a (o + 4), .inl (E.2.2.1, 4, .inr (.inl c_drawn_keys))), (a (o + 5), .inr (2, [.ref (a (o + 6)), .int c_pad_count])), (a (o + 6), .inl (E.2.1, 60, .inl c_pad_signs)), (a (o + 7), .inr (3, [.int c_sights_count, .ref (a (o + 8))])), (a (o + 8), .inl (E.2.2.1, 157, .inr (.inl c_sights_seeds))), (a (o + 9), .inl (E.2.2.2.2, 2, .inr (.inr (.inr (.inr (va_up (va_up (fun _ => none) 0 (some (a (o + 10)))) 1 (some (a (o + 15))))))))), (a (o + 10), .inr (1, [.int c_img0_kept, .ref (a (o + 11)), .ref (a (o + 13))])), (a (o + 11), .inr (6, [.ref (a (o + 12)), .int c_img0_world_seed])), (a (o + 12), .inl (E.2.2.1, 4, .inr (.inl c_img0_world_keys))), (a (o + 13), .inr (3, [.int c_img0_sights_count, .ref (a (o + 14))])), (a (o + 14), .inl (E.2.2.1, 157, .inr (.inl c_img0_sights_seeds))), (a (o + 15), .inr (1, [.int c_img1_kept, .ref (a (o + 16)), .ref (a (o + 18))])), (a (o + 16), .inr (6, [.ref (a (o + 17)), .int c_img1_world_seed])), (a (o + 17), .inl (E.2.2.1, 4, .inr (.inl c_img1_world_keys))), (a (o + 18), .inr (3, [.int c_img1_sights_count, .ref (a (o + 19))])), (a (o + 19), .inl (E.2.2.1, 157, .inr (.inl c_img1_sights_seeds))), (a (o + 20), .inr (5, [.ref (a (o + 21)), .ref (a (o + 22)), .ref (a (o + 31)), .ref (a (o + 40)), .ref (a (o + 42)), .int c_trial_acts, .int c_trial_whyNot, .int c_trial_work, .int c_trial_alikeAct, .int c_trial_alikePair])), (a (o + 21), .inr (0, [.int c_trial_act_kind, .int c_trial_act_set, .int c_trial_act_key, .int c_trial_act_other])), (a (o + 22), .inr (4, [.ref (a (o + 23)), .ref (a (o + 24)), .ref (a (o + 25)), .ref (a (o + 26)), .int c_trial_tb_root, .ref (a (o + 27)), .ref (a (o + 28)), .ref (a (o + 29)), .int c_trial_tb_pricedBy, .ref (a (o + 30))])), (a (o + 23), .inl (E.2.1, 50, .inl c_trial_tb_left)), (a (o + 24), .inl (E.2.1, 50, .inl c_trial_tb_right)), (a (o + 25), .inl (E.2.1, 50, .inl c_trial_tb_parent)), (a (o + 26), .inl (E.2.2.1, 50, .inr (.inl c_trial_tb_span))), (a (o + 27), .inl (E.2.1, 50, .inl c_trial_tb_digest)), (a (o + 28), .inl (E.2.1, 50, .inl c_trial_tb_height)), (a (o + 29), .inl (E.2.1, 50, .inl c_trial_tb_priority)), (a (o + 30), .inl (E.2.1, 50, .inl c_trial_tb_open)), (a (o + 31), .inr (4, [.ref (a (o + 32)), .ref (a (o + 33)), .ref (a (o + 34)), .ref (a (o + 35)), .int c_trial_ta_root, .ref (a (o + 36)), .ref (a (o + 37)), .ref (a (o + 38)), .int c_trial_ta_pricedBy, .ref (a (o + 39))])), (a (o + 32), .inl (E.2.1, 50, .inl c_trial_ta_left)), (a (o + 33), .inl (E.2.1, 50, .inl c_trial_ta_right)), (a (o + 34), .inl (E.2.1, 50, .inl c_trial_ta_parent)), (a (o + 35), .inl (E.2.2.1, 50, .inr (.inl c_trial_ta_span))), (a (o + 36), .inl (E.2.1, 50, .inl c_trial_ta_digest)), (a (o + 37), .inl (E.2.1, 50, .inl c_trial_ta_height)), (a (o + 38), .inl (E.2.1, 50, .inl c_trial_ta_priority)), (a (o + 39), .inl (E.2.1, 50, .inl c_trial_ta_open)), (a (o + 40), .inr (6, [.ref (a (o + 41)), .int c_trial_after_seed])), (a (o + 41), .inl (E.2.2.1, 4, .inr (.inl c_trial_after_keys))), (a (o + 42), .inr (6, [.ref (a (o + 43)), .int c_trial_before_seed])), (a (o + 43), .inl (E.2.2.1, 4, .inr (.inl c_trial_before_keys)))]
theorem gdX7 : (u_ws RX7 TX7 9).all goodWord = true := by decide +kernel
theorem tokX7 : TOK TX7 9 tyX7 := ⟨tyX7_ok, nmX7⟩
def wX8 (E : EV) (a : Nat → Nat) (o : Nat) (c_seed : Int32) (c_is c_sightOne c_sightOther : Nat → Int32) (c_sights : Int32) (c_pad : Nat → Int32) (c_padMany : Int32) (c_act c_which c_key c_other : Nat → Int32) (c_acts : Int32) (c_order : Nat → Int32) (c_digest : Nat → Int64) (c_tall c_had : Nat → Int32) (c_badAct c_badWhy c_alikeAct c_alikeTwo c_work c_isWorked : Int32) (c_trees : Nat → Int64) (c_from c_upTo : Nat → Int32) (c_shape : Nat → Int64) (c_kept c_isKept : Nat → Int32) (c_keptAt c_isWriting : Int32) : va_W := [(a o, .inr (8, [.int c_seed, .ref (a (o + 1)), .ref (a (o + 2)), .ref (a (o + 3)), .int c_sights, .ref (a (o + 4)), .int c_padMany, .ref (a (o + 5)), .ref (a (o + 6)), .ref (a (o + 7)), .ref (a (o + 8)), .int c_acts, .ref (a (o + 9)), .ref (a (o + 10)), .ref (a (o + 11)), .ref (a (o + 12)), .int c_badAct, .int c_badWhy, .int c_alikeAct, .int c_alikeTwo, .int c_work, .int c_isWorked, .ref (a (o + 13)), .ref (a (o + 14)), .ref (a (o + 15)), .ref (a (o + 16)), .ref (a (o + 17)), .ref (a (o + 18)), .int c_keptAt, .int c_isWriting])), (a (o + 1), .inl (E.2.1, 200, .inl c_is)), (a (o + 2), .inl (E.2.1, 8, .inl c_sightOne)), (a (o + 3), .inl (E.2.1, 8, .inl c_sightOther)), (a (o + 4), .inl (E.2.1, 60, .inl c_pad)), (a (o + 5), .inl (E.2.1, 60, .inl c_act)), (a (o + 6), .inl (E.2.1, 60, .inl c_which)), (a (o + 7), .inl (E.2.1, 60, .inl c_key)), (a (o + 8), .inl (E.2.1, 60, .inl c_other)), (a (o + 9), .inl (E.2.1, 50, .inl c_order)), (a (o + 10), .inl (E.2.2.1, 50, .inr (.inl c_digest))), (a (o + 11), .inl (E.2.1, 50, .inl c_tall)), (a (o + 12), .inl (E.2.1, 201, .inl c_had)), (a (o + 13), .inl (E.2.2.1, 200, .inr (.inl c_trees))), (a (o + 14), .inl (E.2.1, 120, .inl c_from)), (a (o + 15), .inl (E.2.1, 120, .inl c_upTo)), (a (o + 16), .inl (E.2.2.1, 31, .inr (.inl c_shape))), (a (o + 17), .inl (E.2.1, 460, .inl c_kept)), (a (o + 18), .inl (E.2.2.2.1, 2, .inl c_isKept))]
theorem gdX8 : (u_ws RX8 TX8 30).all goodWord = true := by decide +kernel
theorem tokX8 : TOK TX8 30 tyX8 := ⟨tyX8_ok, nmX8⟩
theorem k_bipush_m6 : (Int8.ofInt (-6)).toInt32 = (-6 : Int32) := by decide
theorem k_bipush_m5 : (Int8.ofInt (-5)).toInt32 = (-5 : Int32) := by decide
theorem k_bipush_m4 : (Int8.ofInt (-4)).toInt32 = (-4 : Int32) := by decide
theorem k_bipush_m3 : (Int8.ofInt (-3)).toInt32 = (-3 : Int32) := by decide
theorem k_bipush_m2 : (Int8.ofInt (-2)).toInt32 = (-2 : Int32) := by decide
theorem k_bipush_6 : (Int8.ofInt 6).toInt32 = (6 : Int32) := by decide
theorem k_bipush_7 : (Int8.ofInt 7).toInt32 = (7 : Int32) := by decide
theorem k_bipush_8 : (Int8.ofInt 8).toInt32 = (8 : Int32) := by decide
theorem k_bipush_10 : (Int8.ofInt 10).toInt32 = (10 : Int32) := by decide
theorem k_bipush_16 : (Int8.ofInt 16).toInt32 = (16 : Int32) := by decide
theorem k_bipush_20 : (Int8.ofInt 20).toInt32 = (20 : Int32) := by decide
theorem k_bipush_30 : (Int8.ofInt 30).toInt32 = (30 : Int32) := by decide
theorem k_bipush_31 : (Int8.ofInt 31).toInt32 = (31 : Int32) := by decide
theorem k_bipush_32 : (Int8.ofInt 32).toInt32 = (32 : Int32) := by decide
theorem k_bipush_33 : (Int8.ofInt 33).toInt32 = (33 : Int32) := by decide
theorem k_bipush_38 : (Int8.ofInt 38).toInt32 = (38 : Int32) := by decide
theorem k_bipush_40 : (Int8.ofInt 40).toInt32 = (40 : Int32) := by decide
theorem k_bipush_43 : (Int8.ofInt 43).toInt32 = (43 : Int32) := by decide
theorem k_bipush_45 : (Int8.ofInt 45).toInt32 = (45 : Int32) := by decide
theorem k_bipush_47 : (Int8.ofInt 47).toInt32 = (47 : Int32) := by decide
theorem k_bipush_48 : (Int8.ofInt 48).toInt32 = (48 : Int32) := by decide
theorem k_bipush_49 : (Int8.ofInt 49).toInt32 = (49 : Int32) := by decide
theorem k_bipush_50 : (Int8.ofInt 50).toInt32 = (50 : Int32) := by decide
theorem k_bipush_52 : (Int8.ofInt 52).toInt32 = (52 : Int32) := by decide
theorem k_bipush_57 : (Int8.ofInt 57).toInt32 = (57 : Int32) := by decide
theorem k_bipush_60 : (Int8.ofInt 60).toInt32 = (60 : Int32) := by decide
theorem k_bipush_61 : (Int8.ofInt 61).toInt32 = (61 : Int32) := by decide
theorem k_bipush_64 : (Int8.ofInt 64).toInt32 = (64 : Int32) := by decide
theorem k_bipush_65 : (Int8.ofInt 65).toInt32 = (65 : Int32) := by decide
theorem k_bipush_74 : (Int8.ofInt 74).toInt32 = (74 : Int32) := by decide
theorem k_bipush_75 : (Int8.ofInt 75).toInt32 = (75 : Int32) := by decide
theorem k_bipush_99 : (Int8.ofInt 99).toInt32 = (99 : Int32) := by decide
theorem k_bipush_100 : (Int8.ofInt 100).toInt32 = (100 : Int32) := by decide
theorem k_bipush_124 : (Int8.ofInt 124).toInt32 = (124 : Int32) := by decide
theorem k_bipush_126 : (Int8.ofInt 126).toInt32 = (126 : Int32) := by decide
theorem k_bipush_127 : (Int8.ofInt 127).toInt32 = (127 : Int32) := by decide
theorem k_iconst_m1 : Int32.ofInt (-1) = (-1 : Int32) := by decide
theorem k_iconst_0 : Int32.ofInt 0 = (0 : Int32) := by decide
theorem k_iconst_1 : Int32.ofInt 1 = (1 : Int32) := by decide
theorem k_iconst_2 : Int32.ofInt 2 = (2 : Int32) := by decide
theorem k_iconst_3 : Int32.ofInt 3 = (3 : Int32) := by decide
theorem k_iconst_4 : Int32.ofInt 4 = (4 : Int32) := by decide
theorem k_iconst_5 : Int32.ofInt 5 = (5 : Int32) := by decide
theorem k_lconst_0 : Int64.ofNat ((0 : Fin 2) : Nat) = (0 : Int64) := by decide
theorem k_lconst_1 : Int64.ofNat ((1 : Fin 2) : Nat) = (1 : Int64) := by decide
theorem k_sipush_131 : (Int16.ofInt 131).toInt32 = (131 : Int32) := by decide
theorem k_sipush_156 : (Int16.ofInt 156).toInt32 = (156 : Int32) := by decide
theorem k_sipush_157 : (Int16.ofInt 157).toInt32 = (157 : Int32) := by decide
theorem k_sipush_200 : (Int16.ofInt 200).toInt32 = (200 : Int32) := by decide
theorem k_sipush_230 : (Int16.ofInt 230).toInt32 = (230 : Int32) := by decide
theorem k_sipush_7919 : (Int16.ofInt 7919).toInt32 = (7919 : Int32) := by decide
theorem k_sipush_9999 : (Int16.ofInt 9999).toInt32 = (9999 : Int32) := by decide
theorem k_sipush_10000 : (Int16.ofInt 10000).toInt32 = (10000 : Int32) := by decide
theorem k_sipush_10007 : (Int16.ofInt 10007).toInt32 = (10007 : Int32) := by decide
theorem wd_0 : Cond.initialized "KeyedTree$Act" ∈ gtb := gt_at 6 (by decide +kernel) (by decide +kernel)
theorem wd_1 : Cond.methodLink "KeyedTree$Act" 24 ⟨"KeyedTree$Act", "become", "(IIII)V"⟩ ∈ gtb := gt_at 542 (by decide +kernel) (by decide +kernel)
theorem wd_2 : Cond.instanceMethod ⟨"KeyedTree$Act", "become", "(IIII)V"⟩ ∈ gtb := gt_at 341 (by decide +kernel) (by decide +kernel)
theorem wd_3 : Cond.selects "KeyedTree$Act" ⟨"KeyedTree$Act", "become", "(IIII)V"⟩ ⟨"KeyedTree$Act", "become", "(IIII)V"⟩ ∈ gtb := gt_at 342 (by decide +kernel) (by decide +kernel)
theorem wd_4 : Cond.initialized "KeyedTree" ∈ gtb := gt_at 1 (by decide +kernel) (by decide +kernel)
theorem wd_5 : Cond.static ⟨"KeyedTree", "isSet", "(I)Z"⟩ ∈ gtb := gt_at 252 (by decide +kernel) (by decide +kernel)
theorem wd_6 : Cond.initialized "KeyedTree$Pad" ∈ gtb := gt_at 3 (by decide +kernel) (by decide +kernel)
theorem wd_7 : Cond.methodLink "KeyedTree$Pad" 25 ⟨"KeyedTree$Pad", "isLetter", "(I)Z"⟩ ∈ gtb := gt_at 300 (by decide +kernel) (by decide +kernel)
theorem wd_8 : Cond.static ⟨"KeyedTree$Pad", "isLetter", "(I)Z"⟩ ∈ gtb := gt_at 301 (by decide +kernel) (by decide +kernel)
theorem wd_9 : Cond.methodLink "KeyedTree$Pad" 29 ⟨"KeyedTree$Pad", "followKind", "(I)I"⟩ ∈ gtb := gt_at 304 (by decide +kernel) (by decide +kernel)
theorem wd_10 : Cond.static ⟨"KeyedTree$Pad", "followKind", "(I)I"⟩ ∈ gtb := gt_at 305 (by decide +kernel) (by decide +kernel)
theorem wd_11 : Cond.methodLink "KeyedTree$Pad" 33 ⟨"KeyedTree$Pad", "isTens", "(I)Z"⟩ ∈ gtb := gt_at 307 (by decide +kernel) (by decide +kernel)
theorem wd_12 : Cond.static ⟨"KeyedTree$Pad", "isTens", "(I)Z"⟩ ∈ gtb := gt_at 308 (by decide +kernel) (by decide +kernel)
theorem wd_13 : Cond.methodLink "KeyedTree$Pad" 36 ⟨"KeyedTree$Pad", "isFigure", "(I)Z"⟩ ∈ gtb := gt_at 310 (by decide +kernel) (by decide +kernel)
theorem wd_14 : Cond.static ⟨"KeyedTree$Pad", "isFigure", "(I)Z"⟩ ∈ gtb := gt_at 311 (by decide +kernel) (by decide +kernel)
theorem wd_15 : Cond.methodLink "KeyedTree$Pad" 19 ⟨"KeyedTree$Pad", "follow", "(II)I"⟩ ∈ gtb := gt_at 297 (by decide +kernel) (by decide +kernel)
theorem wd_16 : Cond.static ⟨"KeyedTree$Pad", "follow", "(II)I"⟩ ∈ gtb := gt_at 298 (by decide +kernel) (by decide +kernel)
theorem wd_17 : Cond.methodLink "KeyedTree$Pad" 42 ⟨"KeyedTree$Pad", "sign", "(I)I"⟩ ∈ gtb := gt_at 336 (by decide +kernel) (by decide +kernel)
theorem wd_18 : Cond.instanceMethod ⟨"KeyedTree$Pad", "sign", "(I)I"⟩ ∈ gtb := gt_at 338 (by decide +kernel) (by decide +kernel)
theorem wd_19 : Cond.selects "KeyedTree$Pad" ⟨"KeyedTree$Pad", "sign", "(I)I"⟩ ⟨"KeyedTree$Pad", "sign", "(I)I"⟩ ∈ gtb := gt_sel 2 (by decide +kernel) (by decide +kernel)
theorem wd_20 : Cond.methodLink "KeyedTree$Pad" 49 ⟨"KeyedTree$Pad", "setAt", "(I)I"⟩ ∈ gtb := gt_at 344 (by decide +kernel) (by decide +kernel)
theorem wd_21 : Cond.instanceMethod ⟨"KeyedTree$Pad", "setAt", "(I)I"⟩ ∈ gtb := gt_at 346 (by decide +kernel) (by decide +kernel)
theorem wd_22 : Cond.selects "KeyedTree$Pad" ⟨"KeyedTree$Pad", "setAt", "(I)I"⟩ ⟨"KeyedTree$Pad", "setAt", "(I)I"⟩ ∈ gtb := gt_sel 3 (by decide +kernel) (by decide +kernel)
theorem wd_23 : Cond.methodLink "KeyedTree$Pad" 45 ⟨"KeyedTree$Act", "become", "(IIII)V"⟩ ∈ gtb := gt_at 340 (by decide +kernel) (by decide +kernel)
theorem wd_24 : Cond.constantLong "KeyedTree$Sights" 18 (-1) ∈ gtb := gt_at 65 (by decide +kernel) (by decide +kernel)
theorem wd_25 : Cond.constantLong "KeyedTree$Sights" 20 65535 ∈ gtb := gt_at 66 (by decide +kernel) (by decide +kernel)
theorem wd_26 : Cond.initialized "KeyedTree$Sights" ∈ gtb := gt_at 4 (by decide +kernel) (by decide +kernel)
theorem wd_27 : Cond.methodLink "KeyedTree$Sights" 15 ⟨"KeyedTree$Sights", "fill", "()V"⟩ ∈ gtb := gt_at 61 (by decide +kernel) (by decide +kernel)
theorem wd_28 : Cond.instanceMethod ⟨"KeyedTree$Sights", "fill", "()V"⟩ ∈ gtb := gt_at 63 (by decide +kernel) (by decide +kernel)
theorem wd_29 : Cond.selects "KeyedTree$Sights" ⟨"KeyedTree$Sights", "fill", "()V"⟩ ⟨"KeyedTree$Sights", "fill", "()V"⟩ ∈ gtb := gt_sel 0 (by decide +kernel) (by decide +kernel)
theorem wd_30 : Cond.methodLink "KeyedTree$Sights" 26 ⟨"java/lang/System", "arraycopy", "(Ljava/lang/Object;ILjava/lang/Object;II)V"⟩ ∈ gtb := gt_at 561 (by decide +kernel) (by decide +kernel)
theorem wd_31 : Cond.native ⟨"java/lang/System", "arraycopy", "(Ljava/lang/Object;ILjava/lang/Object;II)V"⟩ ∈ gtb := gt_at 331 (by decide +kernel) (by decide +kernel)
theorem wd_32 : Cond.static ⟨"java/lang/System", "arraycopy", "(Ljava/lang/Object;ILjava/lang/Object;II)V"⟩ ∈ gtb := gt_at 330 (by decide +kernel) (by decide +kernel)
theorem wd_33 : Cond.initialized "java/lang/System" ∈ gtb := gt_at 11 (by decide +kernel) (by decide +kernel)
theorem wd_34 : Cond.methodLink "KeyedTree" 170 ⟨"KeyedTree", "priority", "(II)I"⟩ ∈ gtb := gt_at 444 (by decide +kernel) (by decide +kernel)
theorem wd_35 : Cond.static ⟨"KeyedTree", "priority", "(II)I"⟩ ∈ gtb := gt_at 382 (by decide +kernel) (by decide +kernel)
theorem wd_36 : Cond.static ⟨"KeyedTree", "ranksAbove", "(III)Z"⟩ ∈ gtb := gt_at 465 (by decide +kernel) (by decide +kernel)
theorem wd_37 : Cond.constantLong "java/lang/Long" 314 6148914691236517205 ∈ gtb := gt_at 269 (by decide +kernel) (by decide +kernel)
theorem wd_38 : Cond.constantLong "java/lang/Long" 316 3689348814741910323 ∈ gtb := gt_at 270 (by decide +kernel) (by decide +kernel)
theorem wd_39 : Cond.constantLong "java/lang/Long" 318 1085102592571150095 ∈ gtb := gt_at 271 (by decide +kernel) (by decide +kernel)
theorem wd_40 : Cond.initialized "java/lang/Long" ∈ gtb := gt_at 10 (by decide +kernel) (by decide +kernel)
theorem wd_41 : Cond.methodLink "KeyedTree$Sights" 36 ⟨"java/lang/Long", "bitCount", "(J)I"⟩ ∈ gtb := gt_at 500 (by decide +kernel) (by decide +kernel)
theorem wd_42 : Cond.static ⟨"java/lang/Long", "bitCount", "(J)I"⟩ ∈ gtb := gt_at 267 (by decide +kernel) (by decide +kernel)
theorem wd_43 : Cond.methodLink "KeyedTree$Sights" 42 ⟨"KeyedTree$Sights", "pickBit", "(JI)I"⟩ ∈ gtb := gt_at 505 (by decide +kernel) (by decide +kernel)
theorem wd_44 : Cond.static ⟨"KeyedTree$Sights", "pickBit", "(JI)I"⟩ ∈ gtb := gt_at 506 (by decide +kernel) (by decide +kernel)
theorem wd_45 : Cond.methodLink "KeyedTree" 91 ⟨"KeyedTree", "bit", "(I)J"⟩ ∈ gtb := gt_at 260 (by decide +kernel) (by decide +kernel)
theorem wd_46 : Cond.static ⟨"KeyedTree", "bit", "(I)J"⟩ ∈ gtb := gt_at 261 (by decide +kernel) (by decide +kernel)
theorem wd_47 : Cond.initialized "KeyedTree$Tree" ∈ gtb := gt_at 7 (by decide +kernel) (by decide +kernel)
theorem wd_48 : Cond.methodLink "KeyedTree$Tree" 62 ⟨"KeyedTree$Tree", "spanBelow", "(I)J"⟩ ∈ gtb := gt_at 390 (by decide +kernel) (by decide +kernel)
theorem wd_49 : Cond.instanceMethod ⟨"KeyedTree$Tree", "spanBelow", "(I)J"⟩ ∈ gtb := gt_at 392 (by decide +kernel) (by decide +kernel)
theorem wd_50 : Cond.selects "KeyedTree$Tree" ⟨"KeyedTree$Tree", "spanBelow", "(I)J"⟩ ⟨"KeyedTree$Tree", "spanBelow", "(I)J"⟩ ∈ gtb := gt_sel 7 (by decide +kernel) (by decide +kernel)
theorem wd_51 : Cond.methodLink "KeyedTree$Tree" 65 ⟨"KeyedTree$Tree", "heightBelow", "(I)I"⟩ ∈ gtb := gt_at 394 (by decide +kernel) (by decide +kernel)
theorem wd_52 : Cond.instanceMethod ⟨"KeyedTree$Tree", "heightBelow", "(I)I"⟩ ∈ gtb := gt_at 395 (by decide +kernel) (by decide +kernel)
theorem wd_53 : Cond.selects "KeyedTree$Tree" ⟨"KeyedTree$Tree", "heightBelow", "(I)I"⟩ ⟨"KeyedTree$Tree", "heightBelow", "(I)I"⟩ ∈ gtb := gt_at 396 (by decide +kernel) (by decide +kernel)
theorem wd_54 : Cond.methodLink "KeyedTree$Tree" 69 ⟨"java/lang/Math", "max", "(II)I"⟩ ∈ gtb := gt_at 398 (by decide +kernel) (by decide +kernel)
theorem wd_55 : Cond.static ⟨"java/lang/Math", "max", "(II)I"⟩ ∈ gtb := gt_at 399 (by decide +kernel) (by decide +kernel)
theorem wd_56 : Cond.initialized "java/lang/Math" ∈ gtb := gt_at 12 (by decide +kernel) (by decide +kernel)
theorem wd_57 : Cond.methodLink "KeyedTree$Tree" 74 ⟨"KeyedTree$Tree", "digestBelow", "(I)I"⟩ ∈ gtb := gt_at 401 (by decide +kernel) (by decide +kernel)
theorem wd_58 : Cond.instanceMethod ⟨"KeyedTree$Tree", "digestBelow", "(I)I"⟩ ∈ gtb := gt_at 402 (by decide +kernel) (by decide +kernel)
theorem wd_59 : Cond.selects "KeyedTree$Tree" ⟨"KeyedTree$Tree", "digestBelow", "(I)I"⟩ ⟨"KeyedTree$Tree", "digestBelow", "(I)I"⟩ ∈ gtb := gt_at 403 (by decide +kernel) (by decide +kernel)
theorem wd_60 : Cond.constant "KeyedTree$Tree" 77 999983 ∈ gtb := gt_at 405 (by decide +kernel) (by decide +kernel)
theorem wd_61 : Cond.methodLink "KeyedTree$Tree" 41 ⟨"KeyedTree$Tree", "price", "(I)V"⟩ ∈ gtb := gt_at 377 (by decide +kernel) (by decide +kernel)
theorem wd_62 : Cond.instanceMethod ⟨"KeyedTree$Tree", "price", "(I)V"⟩ ∈ gtb := gt_at 379 (by decide +kernel) (by decide +kernel)
theorem wd_63 : Cond.selects "KeyedTree$Tree" ⟨"KeyedTree$Tree", "price", "(I)V"⟩ ⟨"KeyedTree$Tree", "price", "(I)V"⟩ ∈ gtb := gt_sel 5 (by decide +kernel) (by decide +kernel)
theorem wd_64 : Cond.static ⟨"KeyedTree", "isIn", "(JI)Z"⟩ ∈ gtb := gt_at 258 (by decide +kernel) (by decide +kernel)
theorem wd_65 : Cond.methodLink "KeyedTree$Tree" 49 ⟨"KeyedTree$Tree", "finish", "(I)V"⟩ ∈ gtb := gt_at 385 (by decide +kernel) (by decide +kernel)
theorem wd_66 : Cond.instanceMethod ⟨"KeyedTree$Tree", "finish", "(I)V"⟩ ∈ gtb := gt_at 387 (by decide +kernel) (by decide +kernel)
theorem wd_67 : Cond.selects "KeyedTree$Tree" ⟨"KeyedTree$Tree", "finish", "(I)V"⟩ ⟨"KeyedTree$Tree", "finish", "(I)V"⟩ ∈ gtb := gt_sel 6 (by decide +kernel) (by decide +kernel)
theorem wd_68 : Cond.methodLink "KeyedTree" 261 ⟨"java/lang/Long", "bitCount", "(J)I"⟩ ∈ gtb := gt_at 266 (by decide +kernel) (by decide +kernel)
theorem wd_69 : Cond.static ⟨"KeyedTree", "count", "(J)I"⟩ ∈ gtb := gt_at 264 (by decide +kernel) (by decide +kernel)
theorem wd_70 : Cond.methodLink "KeyedTree$World" 15 ⟨"java/lang/System", "arraycopy", "(Ljava/lang/Object;ILjava/lang/Object;II)V"⟩ ∈ gtb := gt_at 329 (by decide +kernel) (by decide +kernel)
theorem wd_71 : Cond.initialized "KeyedTree$World" ∈ gtb := gt_at 2 (by decide +kernel) (by decide +kernel)
theorem wd_72 : Cond.methodLink "KeyedTree$World" 40 ⟨"KeyedTree$World", "whyNotOne", "(ZJI)I"⟩ ∈ gtb := gt_at 352 (by decide +kernel) (by decide +kernel)
theorem wd_73 : Cond.static ⟨"KeyedTree$World", "whyNotOne", "(ZJI)I"⟩ ∈ gtb := gt_at 353 (by decide +kernel) (by decide +kernel)
theorem wd_74 : Cond.methodLink "KeyedTree$World" 47 ⟨"KeyedTree$World", "whyNotTwo", "(IJJ)I"⟩ ∈ gtb := gt_at 357 (by decide +kernel) (by decide +kernel)
theorem wd_75 : Cond.static ⟨"KeyedTree$World", "whyNotTwo", "(IJJ)I"⟩ ∈ gtb := gt_at 358 (by decide +kernel) (by decide +kernel)
theorem wd_76 : Cond.constantLong "KeyedTree$World" 59 (-1) ∈ gtb := gt_at 365 (by decide +kernel) (by decide +kernel)
theorem wd_77 : Cond.static ⟨"KeyedTree", "less", "(I)J"⟩ ∈ gtb := gt_at 367 (by decide +kernel) (by decide +kernel)
theorem wd_78 : Cond.methodLink "KeyedTree$Trial" 93 ⟨"KeyedTree$Tree", "grow", "(JI)V"⟩ ∈ gtb := gt_at 373 (by decide +kernel) (by decide +kernel)
theorem wd_79 : Cond.instanceMethod ⟨"KeyedTree$Tree", "grow", "(JI)V"⟩ ∈ gtb := gt_at 374 (by decide +kernel) (by decide +kernel)
theorem wd_80 : Cond.selects "KeyedTree$Tree" ⟨"KeyedTree$Tree", "grow", "(JI)V"⟩ ⟨"KeyedTree$Tree", "grow", "(JI)V"⟩ ∈ gtb := gt_at 375 (by decide +kernel) (by decide +kernel)
theorem wd_81 : Cond.initialized "KeyedTree$Trial" ∈ gtb := gt_at 5 (by decide +kernel) (by decide +kernel)
theorem wd_82 : Cond.methodLink "KeyedTree$Trial" 104 ⟨"KeyedTree$Trial", "sameKeys", "(LKeyedTree$World;II)Z"⟩ ∈ gtb := gt_at 411 (by decide +kernel) (by decide +kernel)
theorem wd_83 : Cond.static ⟨"KeyedTree$Trial", "sameKeys", "(LKeyedTree$World;II)Z"⟩ ∈ gtb := gt_at 412 (by decide +kernel) (by decide +kernel)
theorem wd_84 : Cond.methodLink "KeyedTree$Trial" 38 ⟨"KeyedTree$World", "copy", "(LKeyedTree$World;)V"⟩ ∈ gtb := gt_at 325 (by decide +kernel) (by decide +kernel)
theorem wd_85 : Cond.instanceMethod ⟨"KeyedTree$World", "copy", "(LKeyedTree$World;)V"⟩ ∈ gtb := gt_at 326 (by decide +kernel) (by decide +kernel)
theorem wd_86 : Cond.selects "KeyedTree$World" ⟨"KeyedTree$World", "copy", "(LKeyedTree$World;)V"⟩ ⟨"KeyedTree$World", "copy", "(LKeyedTree$World;)V"⟩ ∈ gtb := gt_at 327 (by decide +kernel) (by decide +kernel)
theorem wd_87 : Cond.methodLink "KeyedTree$Trial" 63 ⟨"KeyedTree$Pad", "read", "(ILKeyedTree$Act;)I"⟩ ∈ gtb := gt_at 332 (by decide +kernel) (by decide +kernel)
theorem wd_88 : Cond.instanceMethod ⟨"KeyedTree$Pad", "read", "(ILKeyedTree$Act;)I"⟩ ∈ gtb := gt_at 333 (by decide +kernel) (by decide +kernel)
theorem wd_89 : Cond.selects "KeyedTree$Pad" ⟨"KeyedTree$Pad", "read", "(ILKeyedTree$Act;)I"⟩ ⟨"KeyedTree$Pad", "read", "(ILKeyedTree$Act;)I"⟩ ∈ gtb := gt_at 334 (by decide +kernel) (by decide +kernel)
theorem wd_90 : Cond.methodLink "KeyedTree$Trial" 67 ⟨"KeyedTree$World", "whyNot", "(LKeyedTree$Act;)I"⟩ ∈ gtb := gt_at 348 (by decide +kernel) (by decide +kernel)
theorem wd_91 : Cond.instanceMethod ⟨"KeyedTree$World", "whyNot", "(LKeyedTree$Act;)I"⟩ ∈ gtb := gt_at 349 (by decide +kernel) (by decide +kernel)
theorem wd_92 : Cond.selects "KeyedTree$World" ⟨"KeyedTree$World", "whyNot", "(LKeyedTree$Act;)I"⟩ ⟨"KeyedTree$World", "whyNot", "(LKeyedTree$Act;)I"⟩ ∈ gtb := gt_at 350 (by decide +kernel) (by decide +kernel)
theorem wd_93 : Cond.methodLink "KeyedTree$Trial" 70 ⟨"KeyedTree$World", "play", "(LKeyedTree$Act;)V"⟩ ∈ gtb := gt_at 360 (by decide +kernel) (by decide +kernel)
theorem wd_94 : Cond.instanceMethod ⟨"KeyedTree$World", "play", "(LKeyedTree$Act;)V"⟩ ∈ gtb := gt_at 361 (by decide +kernel) (by decide +kernel)
theorem wd_95 : Cond.selects "KeyedTree$World" ⟨"KeyedTree$World", "play", "(LKeyedTree$Act;)V"⟩ ⟨"KeyedTree$World", "play", "(LKeyedTree$Act;)V"⟩ ∈ gtb := gt_at 362 (by decide +kernel) (by decide +kernel)
theorem wd_96 : Cond.methodLink "KeyedTree$Trial" 74 ⟨"KeyedTree$Trial", "addWork", "()V"⟩ ∈ gtb := gt_at 369 (by decide +kernel) (by decide +kernel)
theorem wd_97 : Cond.instanceMethod ⟨"KeyedTree$Trial", "addWork", "()V"⟩ ∈ gtb := gt_at 371 (by decide +kernel) (by decide +kernel)
theorem wd_98 : Cond.selects "KeyedTree$Trial" ⟨"KeyedTree$Trial", "addWork", "()V"⟩ ⟨"KeyedTree$Trial", "addWork", "()V"⟩ ∈ gtb := gt_sel 4 (by decide +kernel) (by decide +kernel)
theorem wd_99 : Cond.methodLink "KeyedTree$Trial" 77 ⟨"KeyedTree$Trial", "seekAlike", "()V"⟩ ∈ gtb := gt_at 407 (by decide +kernel) (by decide +kernel)
theorem wd_100 : Cond.instanceMethod ⟨"KeyedTree$Trial", "seekAlike", "()V"⟩ ∈ gtb := gt_at 409 (by decide +kernel) (by decide +kernel)
theorem wd_101 : Cond.selects "KeyedTree$Trial" ⟨"KeyedTree$Trial", "seekAlike", "()V"⟩ ⟨"KeyedTree$Trial", "seekAlike", "()V"⟩ ∈ gtb := gt_sel 8 (by decide +kernel) (by decide +kernel)
theorem wd_102 : Cond.methodLink "KeyedTree$Trial" 80 ⟨"java/lang/Math", "max", "(II)I"⟩ ∈ gtb := gt_at 414 (by decide +kernel) (by decide +kernel)
theorem wd_103 : Cond.methodLink "KeyedTree" 65 ⟨"KeyedTree", "isSeed", "(I)Z"⟩ ∈ gtb := gt_at 244 (by decide +kernel) (by decide +kernel)
theorem wd_104 : Cond.static ⟨"KeyedTree", "isSeed", "(I)Z"⟩ ∈ gtb := gt_at 245 (by decide +kernel) (by decide +kernel)
theorem wd_105 : Cond.methodLink "KeyedTree" 73 ⟨"KeyedTree", "isSet", "(I)Z"⟩ ∈ gtb := gt_at 251 (by decide +kernel) (by decide +kernel)
theorem wd_106 : Cond.methodLink "KeyedTree" 76 ⟨"KeyedTree", "isKey", "(I)Z"⟩ ∈ gtb := gt_at 254 (by decide +kernel) (by decide +kernel)
theorem wd_107 : Cond.static ⟨"KeyedTree", "isKey", "(I)Z"⟩ ∈ gtb := gt_at 255 (by decide +kernel) (by decide +kernel)
theorem wd_108 : Cond.constantLong "KeyedTree" 95 (-1) ∈ gtb := gt_at 272 (by decide +kernel) (by decide +kernel)
theorem wd_109 : Cond.methodLink "KeyedTree" 87 ⟨"KeyedTree", "count", "(J)I"⟩ ∈ gtb := gt_at 263 (by decide +kernel) (by decide +kernel)
theorem wd_110 : Cond.methodLink "KeyedTree" 83 ⟨"KeyedTree", "isIn", "(JI)Z"⟩ ∈ gtb := gt_at 257 (by decide +kernel) (by decide +kernel)
theorem wd_111 : Cond.methodLink "KeyedTree" 97 ⟨"KeyedTree$Pad", "write", "(I)Z"⟩ ∈ gtb := gt_at 277 (by decide +kernel) (by decide +kernel)
theorem wd_112 : Cond.instanceMethod ⟨"KeyedTree$Pad", "write", "(I)Z"⟩ ∈ gtb := gt_at 278 (by decide +kernel) (by decide +kernel)
theorem wd_113 : Cond.selects "KeyedTree$Pad" ⟨"KeyedTree$Pad", "write", "(I)Z"⟩ ⟨"KeyedTree$Pad", "write", "(I)Z"⟩ ∈ gtb := gt_at 279 (by decide +kernel) (by decide +kernel)
theorem wd_114 : Cond.methodLink "KeyedTree" 102 ⟨"KeyedTree$Pad", "clear", "()V"⟩ ∈ gtb := gt_at 285 (by decide +kernel) (by decide +kernel)
theorem wd_115 : Cond.instanceMethod ⟨"KeyedTree$Pad", "clear", "()V"⟩ ∈ gtb := gt_at 286 (by decide +kernel) (by decide +kernel)
theorem wd_116 : Cond.selects "KeyedTree$Pad" ⟨"KeyedTree$Pad", "clear", "()V"⟩ ⟨"KeyedTree$Pad", "clear", "()V"⟩ ∈ gtb := gt_at 287 (by decide +kernel) (by decide +kernel)
theorem wd_117 : Cond.methodLink "KeyedTree" 105 ⟨"KeyedTree$Pad", "firstFault", "()I"⟩ ∈ gtb := gt_at 293 (by decide +kernel) (by decide +kernel)
theorem wd_118 : Cond.instanceMethod ⟨"KeyedTree$Pad", "firstFault", "()I"⟩ ∈ gtb := gt_at 294 (by decide +kernel) (by decide +kernel)
theorem wd_119 : Cond.selects "KeyedTree$Pad" ⟨"KeyedTree$Pad", "firstFault", "()I"⟩ ⟨"KeyedTree$Pad", "firstFault", "()I"⟩ ∈ gtb := gt_at 295 (by decide +kernel) (by decide +kernel)
theorem wd_120 : Cond.methodLink "KeyedTree" 153 ⟨"KeyedTree$Trial", "play", "(LKeyedTree$Pad;LKeyedTree$World;)V"⟩ ∈ gtb := gt_at 321 (by decide +kernel) (by decide +kernel)
theorem wd_121 : Cond.instanceMethod ⟨"KeyedTree$Trial", "play", "(LKeyedTree$Pad;LKeyedTree$World;)V"⟩ ∈ gtb := gt_at 322 (by decide +kernel) (by decide +kernel)
theorem wd_122 : Cond.selects "KeyedTree$Trial" ⟨"KeyedTree$Trial", "play", "(LKeyedTree$Pad;LKeyedTree$World;)V"⟩ ⟨"KeyedTree$Trial", "play", "(LKeyedTree$Pad;LKeyedTree$World;)V"⟩ ∈ gtb := gt_at 323 (by decide +kernel) (by decide +kernel)
theorem wd_123 : Cond.methodLink "KeyedTree" 109 ⟨"KeyedTree", "tryActs", "()I"⟩ ∈ gtb := gt_at 317 (by decide +kernel) (by decide +kernel)
theorem wd_124 : Cond.instanceMethod ⟨"KeyedTree", "tryActs", "()I"⟩ ∈ gtb := gt_at 319 (by decide +kernel) (by decide +kernel)
theorem wd_125 : Cond.selects "KeyedTree" ⟨"KeyedTree", "tryActs", "()I"⟩ ⟨"KeyedTree", "tryActs", "()I"⟩ ∈ gtb := gt_sel 1 (by decide +kernel) (by decide +kernel)
theorem wd_126 : Cond.methodLink "KeyedTree" 124 ⟨"KeyedTree$Tree", "grow", "(JI)V"⟩ ∈ gtb := gt_at 419 (by decide +kernel) (by decide +kernel)
theorem wd_127 : Cond.methodLink "KeyedTree" 133 ⟨"KeyedTree$Tree", "sizeBelow", "(I)I"⟩ ∈ gtb := gt_at 420 (by decide +kernel) (by decide +kernel)
theorem wd_128 : Cond.instanceMethod ⟨"KeyedTree$Tree", "sizeBelow", "(I)I"⟩ ∈ gtb := gt_at 421 (by decide +kernel) (by decide +kernel)
theorem wd_129 : Cond.selects "KeyedTree$Tree" ⟨"KeyedTree$Tree", "sizeBelow", "(I)I"⟩ ⟨"KeyedTree$Tree", "sizeBelow", "(I)I"⟩ ∈ gtb := gt_at 422 (by decide +kernel) (by decide +kernel)
theorem wd_130 : Cond.methodLink "KeyedTree" 137 ⟨"KeyedTree$Tree", "digestBelow", "(I)I"⟩ ∈ gtb := gt_at 425 (by decide +kernel) (by decide +kernel)
theorem wd_131 : Cond.methodLink "KeyedTree" 140 ⟨"KeyedTree$Tree", "heightBelow", "(I)I"⟩ ∈ gtb := gt_at 426 (by decide +kernel) (by decide +kernel)
theorem wd_132 : Cond.methodLink "KeyedTree" 149 ⟨"KeyedTree$World", "copy", "(LKeyedTree$World;)V"⟩ ∈ gtb := gt_at 435 (by decide +kernel) (by decide +kernel)
theorem wd_133 : Cond.methodLink "KeyedTree" 167 ⟨"KeyedTree$Tree", "depth", "(I)I"⟩ ∈ gtb := gt_at 440 (by decide +kernel) (by decide +kernel)
theorem wd_134 : Cond.instanceMethod ⟨"KeyedTree$Tree", "depth", "(I)I"⟩ ∈ gtb := gt_at 441 (by decide +kernel) (by decide +kernel)
theorem wd_135 : Cond.selects "KeyedTree$Tree" ⟨"KeyedTree$Tree", "depth", "(I)I"⟩ ⟨"KeyedTree$Tree", "depth", "(I)I"⟩ ∈ gtb := gt_at 442 (by decide +kernel) (by decide +kernel)
theorem wd_136 : Cond.methodLink "KeyedTree" 174 ⟨"KeyedTree", "less", "(I)J"⟩ ∈ gtb := gt_at 449 (by decide +kernel) (by decide +kernel)
theorem wd_137 : Cond.methodLink "KeyedTree" 177 ⟨"KeyedTree", "pick", "(JI)I"⟩ ∈ gtb := gt_at 454 (by decide +kernel) (by decide +kernel)
theorem wd_138 : Cond.static ⟨"KeyedTree", "pick", "(JI)I"⟩ ∈ gtb := gt_at 455 (by decide +kernel) (by decide +kernel)
theorem wd_139 : Cond.methodLink "KeyedTree" 189 ⟨"KeyedTree", "ranksAbove", "(III)Z"⟩ ∈ gtb := gt_at 464 (by decide +kernel) (by decide +kernel)
theorem wd_140 : Cond.methodLink "KeyedTree" 181 ⟨"KeyedTree", "looks", "(LKeyedTree$Tree;LKeyedTree$Tree;JJII)I"⟩ ∈ gtb := gt_at 461 (by decide +kernel) (by decide +kernel)
theorem wd_141 : Cond.static ⟨"KeyedTree", "looks", "(LKeyedTree$Tree;LKeyedTree$Tree;JJII)I"⟩ ∈ gtb := gt_at 462 (by decide +kernel) (by decide +kernel)
theorem wd_142 : Cond.methodLink "KeyedTree" 185 ⟨"KeyedTree", "shared", "(JJ)I"⟩ ∈ gtb := gt_at 467 (by decide +kernel) (by decide +kernel)
theorem wd_143 : Cond.instanceMethod ⟨"KeyedTree", "shared", "(JJ)I"⟩ ∈ gtb := gt_at 469 (by decide +kernel) (by decide +kernel)
theorem wd_144 : Cond.selects "KeyedTree" ⟨"KeyedTree", "shared", "(JJ)I"⟩ ⟨"KeyedTree", "shared", "(JJ)I"⟩ ∈ gtb := gt_sel 9 (by decide +kernel) (by decide +kernel)
theorem wd_145 : Cond.methodLink "KeyedTree" 196 ⟨"KeyedTree$Sights", "add", "(II)Z"⟩ ∈ gtb := gt_at 479 (by decide +kernel) (by decide +kernel)
theorem wd_146 : Cond.instanceMethod ⟨"KeyedTree$Sights", "add", "(II)Z"⟩ ∈ gtb := gt_at 480 (by decide +kernel) (by decide +kernel)
theorem wd_147 : Cond.selects "KeyedTree$Sights" ⟨"KeyedTree$Sights", "add", "(II)Z"⟩ ⟨"KeyedTree$Sights", "add", "(II)Z"⟩ ∈ gtb := gt_at 481 (by decide +kernel) (by decide +kernel)
theorem wd_148 : Cond.methodLink "KeyedTree" 201 ⟨"KeyedTree$Sights", "clear", "()V"⟩ ∈ gtb := gt_at 488 (by decide +kernel) (by decide +kernel)
theorem wd_149 : Cond.instanceMethod ⟨"KeyedTree$Sights", "clear", "()V"⟩ ∈ gtb := gt_at 489 (by decide +kernel) (by decide +kernel)
theorem wd_150 : Cond.selects "KeyedTree$Sights" ⟨"KeyedTree$Sights", "clear", "()V"⟩ ⟨"KeyedTree$Sights", "clear", "()V"⟩ ∈ gtb := gt_at 490 (by decide +kernel) (by decide +kernel)
theorem wd_151 : Cond.methodLink "KeyedTree" 205 ⟨"KeyedTree$Sights", "pickSeed", "(I)I"⟩ ∈ gtb := gt_at 501 (by decide +kernel) (by decide +kernel)
theorem wd_152 : Cond.instanceMethod ⟨"KeyedTree$Sights", "pickSeed", "(I)I"⟩ ∈ gtb := gt_at 502 (by decide +kernel) (by decide +kernel)
theorem wd_153 : Cond.selects "KeyedTree$Sights" ⟨"KeyedTree$Sights", "pickSeed", "(I)I"⟩ ⟨"KeyedTree$Sights", "pickSeed", "(I)I"⟩ ∈ gtb := gt_at 503 (by decide +kernel) (by decide +kernel)
theorem wd_154 : Cond.methodLink "KeyedTree" 202 ⟨"KeyedTree$Sights", "countSeeds", "()I"⟩ ∈ gtb := gt_at 496 (by decide +kernel) (by decide +kernel)
theorem wd_155 : Cond.instanceMethod ⟨"KeyedTree$Sights", "countSeeds", "()I"⟩ ∈ gtb := gt_at 497 (by decide +kernel) (by decide +kernel)
theorem wd_156 : Cond.selects "KeyedTree$Sights" ⟨"KeyedTree$Sights", "countSeeds", "()I"⟩ ⟨"KeyedTree$Sights", "countSeeds", "()I"⟩ ∈ gtb := gt_at 498 (by decide +kernel) (by decide +kernel)
theorem wd_157 : Cond.constantLong "KeyedTree" 208 (-3) ∈ gtb := gt_at 512 (by decide +kernel) (by decide +kernel)
theorem wd_158 : Cond.constantLong "KeyedTree" 210 (-2) ∈ gtb := gt_at 517 (by decide +kernel) (by decide +kernel)
theorem wd_159 : Cond.constantLong "KeyedTree" 212 (-1000000000000000002) ∈ gtb := gt_at 522 (by decide +kernel) (by decide +kernel)
theorem wd_160 : Cond.constantLong "KeyedTree" 214 232792560 ∈ gtb := gt_at 523 (by decide +kernel) (by decide +kernel)
theorem wd_161 : Cond.methodLink "KeyedTree" 216 ⟨"java/lang/Math", "abs", "(I)I"⟩ ∈ gtb := gt_at 524 (by decide +kernel) (by decide +kernel)
theorem wd_162 : Cond.static ⟨"java/lang/Math", "abs", "(I)I"⟩ ∈ gtb := gt_at 525 (by decide +kernel) (by decide +kernel)
theorem wd_163 : Cond.methodLink "KeyedTree" 221 ⟨"KeyedTree", "greatestDivisor", "(JJ)J"⟩ ∈ gtb := gt_at 527 (by decide +kernel) (by decide +kernel)
theorem wd_164 : Cond.static ⟨"KeyedTree", "greatestDivisor", "(JJ)J"⟩ ∈ gtb := gt_at 528 (by decide +kernel) (by decide +kernel)
theorem wd_165 : Cond.methodLink "KeyedTree" 225 ⟨"java/lang/Math", "max", "(JJ)J"⟩ ∈ gtb := gt_at 530 (by decide +kernel) (by decide +kernel)
theorem wd_166 : Cond.static ⟨"java/lang/Math", "max", "(JJ)J"⟩ ∈ gtb := gt_at 531 (by decide +kernel) (by decide +kernel)
theorem wd_167 : Cond.constant "KeyedTree" 228 65537 ∈ gtb := gt_at 537 (by decide +kernel) (by decide +kernel)
theorem wd_168 : Cond.methodLink "KeyedTree" 229 ⟨"KeyedTree$Act", "draw", "(I)V"⟩ ∈ gtb := gt_at 538 (by decide +kernel) (by decide +kernel)
theorem wd_169 : Cond.instanceMethod ⟨"KeyedTree$Act", "draw", "(I)V"⟩ ∈ gtb := gt_at 539 (by decide +kernel) (by decide +kernel)
theorem wd_170 : Cond.selects "KeyedTree$Act" ⟨"KeyedTree$Act", "draw", "(I)V"⟩ ⟨"KeyedTree$Act", "draw", "(I)V"⟩ ∈ gtb := gt_at 540 (by decide +kernel) (by decide +kernel)
theorem wd_171 : Cond.methodLink "KeyedTree" 235 ⟨"KeyedTree$World", "whyNot", "(LKeyedTree$Act;)I"⟩ ∈ gtb := gt_at 543 (by decide +kernel) (by decide +kernel)
theorem wd_172 : Cond.methodLink "KeyedTree" 238 ⟨"KeyedTree$World", "play", "(LKeyedTree$Act;)V"⟩ ∈ gtb := gt_at 544 (by decide +kernel) (by decide +kernel)
theorem wd_173 : Cond.methodLink "KeyedTree" 241 ⟨"KeyedTree", "digest", "(JI)I"⟩ ∈ gtb := gt_at 545 (by decide +kernel) (by decide +kernel)
theorem wd_174 : Cond.instanceMethod ⟨"KeyedTree", "digest", "(JI)I"⟩ ∈ gtb := gt_at 547 (by decide +kernel) (by decide +kernel)
theorem wd_175 : Cond.selects "KeyedTree" ⟨"KeyedTree", "digest", "(JI)I"⟩ ⟨"KeyedTree", "digest", "(JI)I"⟩ ∈ gtb := gt_sel 10 (by decide +kernel) (by decide +kernel)
theorem wd_176 : Cond.methodLink "KeyedTree" 244 ⟨"KeyedTree$World", "countAll", "()I"⟩ ∈ gtb := gt_at 549 (by decide +kernel) (by decide +kernel)
theorem wd_177 : Cond.instanceMethod ⟨"KeyedTree$World", "countAll", "()I"⟩ ∈ gtb := gt_at 550 (by decide +kernel) (by decide +kernel)
theorem wd_178 : Cond.selects "KeyedTree$World" ⟨"KeyedTree$World", "countAll", "()I"⟩ ⟨"KeyedTree$World", "countAll", "()I"⟩ ∈ gtb := gt_at 551 (by decide +kernel) (by decide +kernel)
theorem wd_179 : Cond.methodLink "KeyedTree" 255 ⟨"KeyedTree$Sights", "copy", "(LKeyedTree$Sights;)V"⟩ ∈ gtb := gt_at 557 (by decide +kernel) (by decide +kernel)
theorem wd_180 : Cond.instanceMethod ⟨"KeyedTree$Sights", "copy", "(LKeyedTree$Sights;)V"⟩ ∈ gtb := gt_at 558 (by decide +kernel) (by decide +kernel)
theorem wd_181 : Cond.selects "KeyedTree$Sights" ⟨"KeyedTree$Sights", "copy", "(LKeyedTree$Sights;)V"⟩ ⟨"KeyedTree$Sights", "copy", "(LKeyedTree$Sights;)V"⟩ ∈ gtb := gt_at 559 (by decide +kernel) (by decide +kernel)
theorem wd_182 : Cond.methodLink "KeyedTree" 258 ⟨"KeyedTree", "toldOfSets", "(I)I"⟩ ∈ gtb := gt_at 570 (by decide +kernel) (by decide +kernel)
theorem wd_183 : Cond.instanceMethod ⟨"KeyedTree", "toldOfSets", "(I)I"⟩ ∈ gtb := gt_at 572 (by decide +kernel) (by decide +kernel)
theorem wd_184 : Cond.selects "KeyedTree" ⟨"KeyedTree", "toldOfSets", "(I)I"⟩ ⟨"KeyedTree", "toldOfSets", "(I)I"⟩ ∈ gtb := gt_sel 11 (by decide +kernel) (by decide +kernel)
theorem wd_185 : Cond.constantLong "KeyedTreeModel" 66 3 ∈ gtb := gt_at 687 (by decide +kernel) (by decide +kernel)
theorem wd_186 : Cond.initialized "KeyedTreeModel" ∈ gtb := gt_at 9 (by decide +kernel) (by decide +kernel)
theorem wd_187 : Cond.methodLink "KeyedTreeModel" 68 ⟨"KeyedTreeModel", "in", "(JJJ)Z"⟩ ∈ gtb := gt_at 677 (by decide +kernel) (by decide +kernel)
theorem wd_188 : Cond.static ⟨"KeyedTreeModel", "in", "(JJJ)Z"⟩ ∈ gtb := gt_at 678 (by decide +kernel) (by decide +kernel)
theorem wd_189 : Cond.constantLong "KeyedTreeModel" 72 49 ∈ gtb := gt_at 691 (by decide +kernel) (by decide +kernel)
theorem wd_190 : Cond.methodLink "KeyedTreeModel" 74 ⟨"KeyedTreeModel", "priorityBy", "(II)I"⟩ ∈ gtb := gt_at 816 (by decide +kernel) (by decide +kernel)
theorem wd_191 : Cond.static ⟨"KeyedTreeModel", "priorityBy", "(II)I"⟩ ∈ gtb := gt_at 817 (by decide +kernel) (by decide +kernel)
theorem wd_192 : Cond.methodLink "KeyedTreeModel" 82 ⟨"KeyedTreeModel", "ranksBy", "(III)Z"⟩ ∈ gtb := gt_at 813 (by decide +kernel) (by decide +kernel)
theorem wd_193 : Cond.static ⟨"KeyedTreeModel", "ranksBy", "(III)Z"⟩ ∈ gtb := gt_at 814 (by decide +kernel) (by decide +kernel)
theorem wd_194 : Cond.constantLong "KeyedTreeModel" 86 9999 ∈ gtb := gt_at 676 (by decide +kernel) (by decide +kernel)
theorem wd_195 : Cond.methodLink "KeyedTreeModel" 88 ⟨"KeyedTreeModel", "isSet", "(I)Z"⟩ ∈ gtb := gt_at 684 (by decide +kernel) (by decide +kernel)
theorem wd_196 : Cond.static ⟨"KeyedTreeModel", "isSet", "(I)Z"⟩ ∈ gtb := gt_at 685 (by decide +kernel) (by decide +kernel)
theorem wd_197 : Cond.methodLink "KeyedTreeModel" 92 ⟨"KeyedTreeModel", "isKey", "(I)Z"⟩ ∈ gtb := gt_at 688 (by decide +kernel) (by decide +kernel)
theorem wd_198 : Cond.static ⟨"KeyedTreeModel", "isKey", "(I)Z"⟩ ∈ gtb := gt_at 689 (by decide +kernel) (by decide +kernel)
theorem wd_199 : Cond.methodLink "KeyedTreeModel" 99 ⟨"KeyedTreeModel", "many", "(I)I"⟩ ∈ gtb := gt_at 696 (by decide +kernel) (by decide +kernel)
theorem wd_200 : Cond.instanceMethod ⟨"KeyedTreeModel", "many", "(I)I"⟩ ∈ gtb := gt_at 698 (by decide +kernel) (by decide +kernel)
theorem wd_201 : Cond.selects "KeyedTreeModel" ⟨"KeyedTreeModel", "many", "(I)I"⟩ ⟨"KeyedTreeModel", "many", "(I)I"⟩ ∈ gtb := gt_sel 13 (by decide +kernel) (by decide +kernel)
theorem wd_202 : Cond.methodLink "KeyedTreeModel" 95 ⟨"KeyedTreeModel", "has", "(II)Z"⟩ ∈ gtb := gt_at 692 (by decide +kernel) (by decide +kernel)
theorem wd_203 : Cond.instanceMethod ⟨"KeyedTreeModel", "has", "(II)Z"⟩ ∈ gtb := gt_at 694 (by decide +kernel) (by decide +kernel)
theorem wd_204 : Cond.selects "KeyedTreeModel" ⟨"KeyedTreeModel", "has", "(II)Z"⟩ ⟨"KeyedTreeModel", "has", "(II)Z"⟩ ∈ gtb := gt_sel 12 (by decide +kernel) (by decide +kernel)
theorem wd_205 : Cond.constantLong "KeyedTreeModel" 103 33 ∈ gtb := gt_at 704 (by decide +kernel) (by decide +kernel)
theorem wd_206 : Cond.constantLong "KeyedTreeModel" 105 126 ∈ gtb := gt_at 705 (by decide +kernel) (by decide +kernel)
theorem wd_207 : Cond.constantLong "KeyedTreeModel" 113 65 ∈ gtb := gt_at 722 (by decide +kernel) (by decide +kernel)
theorem wd_208 : Cond.constantLong "KeyedTreeModel" 115 68 ∈ gtb := gt_at 723 (by decide +kernel) (by decide +kernel)
theorem wd_209 : Cond.methodLink "KeyedTreeModel" 117 ⟨"KeyedTreeModel", "ends", "()I"⟩ ∈ gtb := gt_at 724 (by decide +kernel) (by decide +kernel)
theorem wd_210 : Cond.instanceMethod ⟨"KeyedTreeModel", "ends", "()I"⟩ ∈ gtb := gt_at 726 (by decide +kernel) (by decide +kernel)
theorem wd_211 : Cond.selects "KeyedTreeModel" ⟨"KeyedTreeModel", "ends", "()I"⟩ ⟨"KeyedTreeModel", "ends", "()I"⟩ ∈ gtb := gt_sel 16 (by decide +kernel) (by decide +kernel)
theorem wd_212 : Cond.methodLink "KeyedTreeModel" 121 ⟨"KeyedTreeModel", "deed", "(II)I"⟩ ∈ gtb := gt_at 732 (by decide +kernel) (by decide +kernel)
theorem wd_213 : Cond.instanceMethod ⟨"KeyedTreeModel", "deed", "(II)I"⟩ ∈ gtb := gt_at 734 (by decide +kernel) (by decide +kernel)
theorem wd_214 : Cond.selects "KeyedTreeModel" ⟨"KeyedTreeModel", "deed", "(II)I"⟩ ⟨"KeyedTreeModel", "deed", "(II)I"⟩ ∈ gtb := gt_sel 18 (by decide +kernel) (by decide +kernel)
theorem wd_215 : Cond.constantLong "KeyedTreeModel" 124 48 ∈ gtb := gt_at 744 (by decide +kernel) (by decide +kernel)
theorem wd_216 : Cond.constantLong "KeyedTreeModel" 128 57 ∈ gtb := gt_at 746 (by decide +kernel) (by decide +kernel)
theorem wd_217 : Cond.constantLong "KeyedTreeModel" 126 52 ∈ gtb := gt_at 745 (by decide +kernel) (by decide +kernel)
theorem wd_218 : Cond.methodLink "KeyedTreeModel" 139 ⟨"KeyedTreeModel", "figure", "(II)I"⟩ ∈ gtb := gt_at 740 (by decide +kernel) (by decide +kernel)
theorem wd_219 : Cond.instanceMethod ⟨"KeyedTreeModel", "figure", "(II)I"⟩ ∈ gtb := gt_at 742 (by decide +kernel) (by decide +kernel)
theorem wd_220 : Cond.selects "KeyedTreeModel" ⟨"KeyedTreeModel", "figure", "(II)I"⟩ ⟨"KeyedTreeModel", "figure", "(II)I"⟩ ∈ gtb := gt_sel 20 (by decide +kernel) (by decide +kernel)
theorem wd_221 : Cond.methodLink "KeyedTreeModel" 136 ⟨"KeyedTreeModel", "another", "(I)I"⟩ ∈ gtb := gt_at 736 (by decide +kernel) (by decide +kernel)
theorem wd_222 : Cond.instanceMethod ⟨"KeyedTreeModel", "another", "(I)I"⟩ ∈ gtb := gt_at 738 (by decide +kernel) (by decide +kernel)
theorem wd_223 : Cond.selects "KeyedTreeModel" ⟨"KeyedTreeModel", "another", "(I)I"⟩ ⟨"KeyedTreeModel", "another", "(I)I"⟩ ∈ gtb := gt_sel 19 (by decide +kernel) (by decide +kernel)
theorem wd_224 : Cond.methodLink "KeyedTreeModel" 133 ⟨"KeyedTreeModel", "begun", "(I)I"⟩ ∈ gtb := gt_at 728 (by decide +kernel) (by decide +kernel)
theorem wd_225 : Cond.instanceMethod ⟨"KeyedTreeModel", "begun", "(I)I"⟩ ∈ gtb := gt_at 730 (by decide +kernel) (by decide +kernel)
theorem wd_226 : Cond.selects "KeyedTreeModel" ⟨"KeyedTreeModel", "begun", "(I)I"⟩ ⟨"KeyedTreeModel", "begun", "(I)I"⟩ ∈ gtb := gt_sel 17 (by decide +kernel) (by decide +kernel)
theorem wd_227 : Cond.methodLink "KeyedTreeModel" 130 ⟨"KeyedTreeModel", "begin", "(I)I"⟩ ∈ gtb := gt_at 718 (by decide +kernel) (by decide +kernel)
theorem wd_228 : Cond.instanceMethod ⟨"KeyedTreeModel", "begin", "(I)I"⟩ ∈ gtb := gt_at 720 (by decide +kernel) (by decide +kernel)
theorem wd_229 : Cond.selects "KeyedTreeModel" ⟨"KeyedTreeModel", "begin", "(I)I"⟩ ⟨"KeyedTreeModel", "begin", "(I)I"⟩ ∈ gtb := gt_sel 15 (by decide +kernel) (by decide +kernel)
theorem wd_230 : Cond.methodLink "KeyedTreeModel" 142 ⟨"KeyedTreeModel", "readOn", "(II)I"⟩ ∈ gtb := gt_at 714 (by decide +kernel) (by decide +kernel)
theorem wd_231 : Cond.instanceMethod ⟨"KeyedTreeModel", "readOn", "(II)I"⟩ ∈ gtb := gt_at 716 (by decide +kernel) (by decide +kernel)
theorem wd_232 : Cond.selects "KeyedTreeModel" ⟨"KeyedTreeModel", "readOn", "(II)I"⟩ ⟨"KeyedTreeModel", "readOn", "(II)I"⟩ ∈ gtb := gt_sel 14 (by decide +kernel) (by decide +kernel)
theorem wd_233 : Cond.methodLink "KeyedTreeModel" 148 ⟨"KeyedTreeModel", "isBeyond", "(II)Z"⟩ ∈ gtb := gt_at 781 (by decide +kernel) (by decide +kernel)
theorem wd_234 : Cond.instanceMethod ⟨"KeyedTreeModel", "isBeyond", "(II)Z"⟩ ∈ gtb := gt_at 783 (by decide +kernel) (by decide +kernel)
theorem wd_235 : Cond.selects "KeyedTreeModel" ⟨"KeyedTreeModel", "isBeyond", "(II)Z"⟩ ⟨"KeyedTreeModel", "isBeyond", "(II)Z"⟩ ∈ gtb := gt_sel 28 (by decide +kernel) (by decide +kernel)
theorem wd_236 : Cond.methodLink "KeyedTreeModel" 145 ⟨"KeyedTreeModel", "ofBoth", "(II)I"⟩ ∈ gtb := gt_at 777 (by decide +kernel) (by decide +kernel)
theorem wd_237 : Cond.instanceMethod ⟨"KeyedTreeModel", "ofBoth", "(II)I"⟩ ∈ gtb := gt_at 779 (by decide +kernel) (by decide +kernel)
theorem wd_238 : Cond.selects "KeyedTreeModel" ⟨"KeyedTreeModel", "ofBoth", "(II)I"⟩ ⟨"KeyedTreeModel", "ofBoth", "(II)I"⟩ ∈ gtb := gt_sel 27 (by decide +kernel) (by decide +kernel)
theorem wd_239 : Cond.methodLink "KeyedTreeModel" 155 ⟨"KeyedTreeModel", "whyNoJoin", "(II)I"⟩ ∈ gtb := gt_at 773 (by decide +kernel) (by decide +kernel)
theorem wd_240 : Cond.instanceMethod ⟨"KeyedTreeModel", "whyNoJoin", "(II)I"⟩ ∈ gtb := gt_at 775 (by decide +kernel) (by decide +kernel)
theorem wd_241 : Cond.selects "KeyedTreeModel" ⟨"KeyedTreeModel", "whyNoJoin", "(II)I"⟩ ⟨"KeyedTreeModel", "whyNoJoin", "(II)I"⟩ ∈ gtb := gt_sel 26 (by decide +kernel) (by decide +kernel)
theorem wd_242 : Cond.methodLink "KeyedTreeModel" 151 ⟨"KeyedTreeModel", "whyNoKey", "(III)I"⟩ ∈ gtb := gt_at 769 (by decide +kernel) (by decide +kernel)
theorem wd_243 : Cond.instanceMethod ⟨"KeyedTreeModel", "whyNoKey", "(III)I"⟩ ∈ gtb := gt_at 771 (by decide +kernel) (by decide +kernel)
theorem wd_244 : Cond.selects "KeyedTreeModel" ⟨"KeyedTreeModel", "whyNoKey", "(III)I"⟩ ⟨"KeyedTreeModel", "whyNoKey", "(III)I"⟩ ∈ gtb := gt_sel 25 (by decide +kernel) (by decide +kernel)
theorem wd_245 : Cond.methodLink "KeyedTreeModel" 158 ⟨"KeyedTreeModel", "by", "(III)I"⟩ ∈ gtb := gt_at 835 (by decide +kernel) (by decide +kernel)
theorem wd_246 : Cond.instanceMethod ⟨"KeyedTreeModel", "by", "(III)I"⟩ ∈ gtb := gt_at 837 (by decide +kernel) (by decide +kernel)
theorem wd_247 : Cond.selects "KeyedTreeModel" ⟨"KeyedTreeModel", "by", "(III)I"⟩ ⟨"KeyedTreeModel", "by", "(III)I"⟩ ∈ gtb := gt_sel 40 (by decide +kernel) (by decide +kernel)
theorem wd_248 : Cond.methodLink "KeyedTreeModel" 161 ⟨"KeyedTreeModel", "part", "(III)V"⟩ ∈ gtb := gt_at 827 (by decide +kernel) (by decide +kernel)
theorem wd_249 : Cond.instanceMethod ⟨"KeyedTreeModel", "part", "(III)V"⟩ ∈ gtb := gt_at 829 (by decide +kernel) (by decide +kernel)
theorem wd_250 : Cond.selects "KeyedTreeModel" ⟨"KeyedTreeModel", "part", "(III)V"⟩ ⟨"KeyedTreeModel", "part", "(III)V"⟩ ∈ gtb := gt_sel 38 (by decide +kernel) (by decide +kernel)
theorem wd_251 : Cond.methodLink "KeyedTreeModel" 165 ⟨"KeyedTreeModel", "both", "(III)V"⟩ ∈ gtb := gt_at 831 (by decide +kernel) (by decide +kernel)
theorem wd_252 : Cond.instanceMethod ⟨"KeyedTreeModel", "both", "(III)V"⟩ ∈ gtb := gt_at 833 (by decide +kernel) (by decide +kernel)
theorem wd_253 : Cond.selects "KeyedTreeModel" ⟨"KeyedTreeModel", "both", "(III)V"⟩ ⟨"KeyedTreeModel", "both", "(III)V"⟩ ∈ gtb := gt_sel 39 (by decide +kernel) (by decide +kernel)
theorem wd_254 : Cond.methodLink "KeyedTreeModel" 168 ⟨"KeyedTreeModel", "ranks", "(II)Z"⟩ ∈ gtb := gt_at 809 (by decide +kernel) (by decide +kernel)
theorem wd_255 : Cond.instanceMethod ⟨"KeyedTreeModel", "ranks", "(II)Z"⟩ ∈ gtb := gt_at 811 (by decide +kernel) (by decide +kernel)
theorem wd_256 : Cond.selects "KeyedTreeModel" ⟨"KeyedTreeModel", "ranks", "(II)Z"⟩ ⟨"KeyedTreeModel", "ranks", "(II)Z"⟩ ∈ gtb := gt_sel 35 (by decide +kernel) (by decide +kernel)
theorem wd_257 : Cond.methodLink "KeyedTreeModel" 171 ⟨"KeyedTreeModel", "beyond", "(III)I"⟩ ∈ gtb := gt_at 805 (by decide +kernel) (by decide +kernel)
theorem wd_258 : Cond.instanceMethod ⟨"KeyedTreeModel", "beyond", "(III)I"⟩ ∈ gtb := gt_at 807 (by decide +kernel) (by decide +kernel)
theorem wd_259 : Cond.selects "KeyedTreeModel" ⟨"KeyedTreeModel", "beyond", "(III)I"⟩ ⟨"KeyedTreeModel", "beyond", "(III)I"⟩ ∈ gtb := gt_sel 34 (by decide +kernel) (by decide +kernel)
theorem wd_260 : Cond.methodLink "KeyedTreeModel" 174 ⟨"KeyedTreeModel", "below", "(III)I"⟩ ∈ gtb := gt_at 819 (by decide +kernel) (by decide +kernel)
theorem wd_261 : Cond.instanceMethod ⟨"KeyedTreeModel", "below", "(III)I"⟩ ∈ gtb := gt_at 821 (by decide +kernel) (by decide +kernel)
theorem wd_262 : Cond.selects "KeyedTreeModel" ⟨"KeyedTreeModel", "below", "(III)I"⟩ ⟨"KeyedTreeModel", "below", "(III)I"⟩ ∈ gtb := gt_sel 36 (by decide +kernel) (by decide +kernel)
theorem wd_263 : Cond.methodLink "KeyedTreeModel" 177 ⟨"KeyedTreeModel", "rootOf", "(III)I"⟩ ∈ gtb := gt_at 870 (by decide +kernel) (by decide +kernel)
theorem wd_264 : Cond.instanceMethod ⟨"KeyedTreeModel", "rootOf", "(III)I"⟩ ∈ gtb := gt_at 872 (by decide +kernel) (by decide +kernel)
theorem wd_265 : Cond.selects "KeyedTreeModel" ⟨"KeyedTreeModel", "rootOf", "(III)I"⟩ ⟨"KeyedTreeModel", "rootOf", "(III)I"⟩ ∈ gtb := gt_sel 47 (by decide +kernel) (by decide +kernel)
theorem wd_266 : Cond.constantLong "KeyedTreeModel" 180 31 ∈ gtb := gt_at 874 (by decide +kernel) (by decide +kernel)
theorem wd_267 : Cond.constantLong "KeyedTreeModel" 182 7919 ∈ gtb := gt_at 875 (by decide +kernel) (by decide +kernel)
theorem wd_268 : Cond.constantLong "KeyedTreeModel" 184 999983 ∈ gtb := gt_at 876 (by decide +kernel) (by decide +kernel)
theorem wd_269 : Cond.methodLink "KeyedTreeModel" 186 ⟨"KeyedTreeModel", "findOrder", "()V"⟩ ∈ gtb := gt_at 862 (by decide +kernel) (by decide +kernel)
theorem wd_270 : Cond.instanceMethod ⟨"KeyedTreeModel", "findOrder", "()V"⟩ ∈ gtb := gt_at 864 (by decide +kernel) (by decide +kernel)
theorem wd_271 : Cond.selects "KeyedTreeModel" ⟨"KeyedTreeModel", "findOrder", "()V"⟩ ⟨"KeyedTreeModel", "findOrder", "()V"⟩ ∈ gtb := gt_sel 45 (by decide +kernel) (by decide +kernel)
theorem wd_272 : Cond.methodLink "KeyedTreeModel" 189 ⟨"KeyedTreeModel", "findOne", "(IIII)V"⟩ ∈ gtb := gt_at 866 (by decide +kernel) (by decide +kernel)
theorem wd_273 : Cond.instanceMethod ⟨"KeyedTreeModel", "findOne", "(IIII)V"⟩ ∈ gtb := gt_at 868 (by decide +kernel) (by decide +kernel)
theorem wd_274 : Cond.selects "KeyedTreeModel" ⟨"KeyedTreeModel", "findOne", "(IIII)V"⟩ ⟨"KeyedTreeModel", "findOne", "(IIII)V"⟩ ∈ gtb := gt_sel 46 (by decide +kernel) (by decide +kernel)
theorem wd_275 : Cond.methodLink "KeyedTreeModel" 193 ⟨"KeyedTreeModel", "treeOf", "(II)J"⟩ ∈ gtb := gt_at 801 (by decide +kernel) (by decide +kernel)
theorem wd_276 : Cond.instanceMethod ⟨"KeyedTreeModel", "treeOf", "(II)J"⟩ ∈ gtb := gt_at 803 (by decide +kernel) (by decide +kernel)
theorem wd_277 : Cond.selects "KeyedTreeModel" ⟨"KeyedTreeModel", "treeOf", "(II)J"⟩ ⟨"KeyedTreeModel", "treeOf", "(II)J"⟩ ∈ gtb := gt_sel 33 (by decide +kernel) (by decide +kernel)
theorem wd_278 : Cond.methodLink "KeyedTreeModel" 197 ⟨"KeyedTreeModel", "areAlike", "(II)Z"⟩ ∈ gtb := gt_at 793 (by decide +kernel) (by decide +kernel)
theorem wd_279 : Cond.instanceMethod ⟨"KeyedTreeModel", "areAlike", "(II)Z"⟩ ∈ gtb := gt_at 795 (by decide +kernel) (by decide +kernel)
theorem wd_280 : Cond.selects "KeyedTreeModel" ⟨"KeyedTreeModel", "areAlike", "(II)Z"⟩ ⟨"KeyedTreeModel", "areAlike", "(II)Z"⟩ ∈ gtb := gt_sel 31 (by decide +kernel) (by decide +kernel)
theorem wd_281 : Cond.methodLink "KeyedTreeModel" 200 ⟨"KeyedTreeModel", "alikeOnes", "()I"⟩ ∈ gtb := gt_at 789 (by decide +kernel) (by decide +kernel)
theorem wd_282 : Cond.instanceMethod ⟨"KeyedTreeModel", "alikeOnes", "()I"⟩ ∈ gtb := gt_at 791 (by decide +kernel) (by decide +kernel)
theorem wd_283 : Cond.selects "KeyedTreeModel" ⟨"KeyedTreeModel", "alikeOnes", "()I"⟩ ⟨"KeyedTreeModel", "alikeOnes", "()I"⟩ ∈ gtb := gt_sel 30 (by decide +kernel) (by decide +kernel)
theorem wd_284 : Cond.methodLink "KeyedTreeModel" 207 ⟨"KeyedTreeModel", "findTrees", "()V"⟩ ∈ gtb := gt_at 797 (by decide +kernel) (by decide +kernel)
theorem wd_285 : Cond.instanceMethod ⟨"KeyedTreeModel", "findTrees", "()V"⟩ ∈ gtb := gt_at 799 (by decide +kernel) (by decide +kernel)
theorem wd_286 : Cond.selects "KeyedTreeModel" ⟨"KeyedTreeModel", "findTrees", "()V"⟩ ⟨"KeyedTreeModel", "findTrees", "()V"⟩ ∈ gtb := gt_sel 32 (by decide +kernel) (by decide +kernel)
theorem wd_287 : Cond.methodLink "KeyedTreeModel" 210 ⟨"KeyedTreeModel", "happen", "(IIII)V"⟩ ∈ gtb := gt_at 823 (by decide +kernel) (by decide +kernel)
theorem wd_288 : Cond.instanceMethod ⟨"KeyedTreeModel", "happen", "(IIII)V"⟩ ∈ gtb := gt_at 825 (by decide +kernel) (by decide +kernel)
theorem wd_289 : Cond.selects "KeyedTreeModel" ⟨"KeyedTreeModel", "happen", "(IIII)V"⟩ ⟨"KeyedTreeModel", "happen", "(IIII)V"⟩ ∈ gtb := gt_sel 37 (by decide +kernel) (by decide +kernel)
theorem wd_290 : Cond.methodLink "KeyedTreeModel" 216 ⟨"KeyedTreeModel", "workNow", "()I"⟩ ∈ gtb := gt_at 839 (by decide +kernel) (by decide +kernel)
theorem wd_291 : Cond.instanceMethod ⟨"KeyedTreeModel", "workNow", "()I"⟩ ∈ gtb := gt_at 841 (by decide +kernel) (by decide +kernel)
theorem wd_292 : Cond.selects "KeyedTreeModel" ⟨"KeyedTreeModel", "workNow", "()I"⟩ ⟨"KeyedTreeModel", "workNow", "()I"⟩ ∈ gtb := gt_sel 41 (by decide +kernel) (by decide +kernel)
theorem wd_293 : Cond.methodLink "KeyedTreeModel" 222 ⟨"KeyedTreeModel", "leastOf", "(I)I"⟩ ∈ gtb := gt_at 843 (by decide +kernel) (by decide +kernel)
theorem wd_294 : Cond.static ⟨"KeyedTreeModel", "leastOf", "(I)I"⟩ ∈ gtb := gt_at 844 (by decide +kernel) (by decide +kernel)
theorem wd_295 : Cond.methodLink "KeyedTreeModel" 234 ⟨"KeyedTreeModel", "whyNot", "(IIII)I"⟩ ∈ gtb := gt_at 765 (by decide +kernel) (by decide +kernel)
theorem wd_296 : Cond.instanceMethod ⟨"KeyedTreeModel", "whyNot", "(IIII)I"⟩ ∈ gtb := gt_at 767 (by decide +kernel) (by decide +kernel)
theorem wd_297 : Cond.selects "KeyedTreeModel" ⟨"KeyedTreeModel", "whyNot", "(IIII)I"⟩ ⟨"KeyedTreeModel", "whyNot", "(IIII)I"⟩ ∈ gtb := gt_sel 24 (by decide +kernel) (by decide +kernel)
theorem wd_298 : Cond.methodLink "KeyedTreeModel" 238 ⟨"KeyedTreeModel", "goOne", "(I)V"⟩ ∈ gtb := gt_at 785 (by decide +kernel) (by decide +kernel)
theorem wd_299 : Cond.instanceMethod ⟨"KeyedTreeModel", "goOne", "(I)V"⟩ ∈ gtb := gt_at 787 (by decide +kernel) (by decide +kernel)
theorem wd_300 : Cond.selects "KeyedTreeModel" ⟨"KeyedTreeModel", "goOne", "(I)V"⟩ ⟨"KeyedTreeModel", "goOne", "(I)V"⟩ ∈ gtb := gt_sel 29 (by decide +kernel) (by decide +kernel)
theorem wd_301 : Cond.methodLink "KeyedTreeModel" 242 ⟨"KeyedTreeModel", "keepNow", "()V"⟩ ∈ gtb := gt_at 756 (by decide +kernel) (by decide +kernel)
theorem wd_302 : Cond.instanceMethod ⟨"KeyedTreeModel", "keepNow", "()V"⟩ ∈ gtb := gt_at 758 (by decide +kernel) (by decide +kernel)
theorem wd_303 : Cond.selects "KeyedTreeModel" ⟨"KeyedTreeModel", "keepNow", "()V"⟩ ⟨"KeyedTreeModel", "keepNow", "()V"⟩ ∈ gtb := gt_sel 22 (by decide +kernel) (by decide +kernel)
theorem wd_304 : Cond.methodLink "KeyedTreeModel" 245 ⟨"KeyedTreeModel", "fault", "()I"⟩ ∈ gtb := gt_at 760 (by decide +kernel) (by decide +kernel)
theorem wd_305 : Cond.instanceMethod ⟨"KeyedTreeModel", "fault", "()I"⟩ ∈ gtb := gt_at 711 (by decide +kernel) (by decide +kernel)
theorem wd_306 : Cond.selects "KeyedTreeModel" ⟨"KeyedTreeModel", "fault", "()I"⟩ ⟨"KeyedTreeModel", "fault", "()I"⟩ ∈ gtb := gt_at 712 (by decide +kernel) (by decide +kernel)
theorem wd_307 : Cond.methodLink "KeyedTreeModel" 248 ⟨"KeyedTreeModel", "goActs", "()V"⟩ ∈ gtb := gt_at 761 (by decide +kernel) (by decide +kernel)
theorem wd_308 : Cond.instanceMethod ⟨"KeyedTreeModel", "goActs", "()V"⟩ ∈ gtb := gt_at 763 (by decide +kernel) (by decide +kernel)
theorem wd_309 : Cond.selects "KeyedTreeModel" ⟨"KeyedTreeModel", "goActs", "()V"⟩ ⟨"KeyedTreeModel", "goActs", "()V"⟩ ∈ gtb := gt_sel 23 (by decide +kernel) (by decide +kernel)
theorem wd_310 : Cond.constantLong "KeyedTreeModel" 251 2 ∈ gtb := gt_at 751 (by decide +kernel) (by decide +kernel)
theorem wd_311 : Cond.methodLink "KeyedTreeModel" 253 ⟨"KeyedTreeModel", "refusal", "(Z)I"⟩ ∈ gtb := gt_at 752 (by decide +kernel) (by decide +kernel)
theorem wd_312 : Cond.instanceMethod ⟨"KeyedTreeModel", "refusal", "(Z)I"⟩ ∈ gtb := gt_at 754 (by decide +kernel) (by decide +kernel)
theorem wd_313 : Cond.selects "KeyedTreeModel" ⟨"KeyedTreeModel", "refusal", "(Z)I"⟩ ⟨"KeyedTreeModel", "refusal", "(Z)I"⟩ ∈ gtb := gt_sel 21 (by decide +kernel) (by decide +kernel)
theorem wd_314 : Cond.methodLink "KeyedTreeModel" 257 ⟨"KeyedTreeModel", "back", "(I)I"⟩ ∈ gtb := gt_at 846 (by decide +kernel) (by decide +kernel)
theorem wd_315 : Cond.instanceMethod ⟨"KeyedTreeModel", "back", "(I)I"⟩ ∈ gtb := gt_at 848 (by decide +kernel) (by decide +kernel)
theorem wd_316 : Cond.selects "KeyedTreeModel" ⟨"KeyedTreeModel", "back", "(I)I"⟩ ⟨"KeyedTreeModel", "back", "(I)I"⟩ ∈ gtb := gt_sel 42 (by decide +kernel) (by decide +kernel)
theorem wd_317 : Cond.methodLink "KeyedTreeModel" 260 ⟨"KeyedTreeModel", "digestOf", "(III)I"⟩ ∈ gtb := gt_at 858 (by decide +kernel) (by decide +kernel)
theorem wd_318 : Cond.instanceMethod ⟨"KeyedTreeModel", "digestOf", "(III)I"⟩ ∈ gtb := gt_at 860 (by decide +kernel) (by decide +kernel)
theorem wd_319 : Cond.selects "KeyedTreeModel" ⟨"KeyedTreeModel", "digestOf", "(III)I"⟩ ⟨"KeyedTreeModel", "digestOf", "(III)I"⟩ ∈ gtb := gt_sel 44 (by decide +kernel) (by decide +kernel)
theorem wd_320 : Cond.methodLink "KeyedTreeModel" 263 ⟨"KeyedTreeModel", "ofSet", "(II)I"⟩ ∈ gtb := gt_at 854 (by decide +kernel) (by decide +kernel)
theorem wd_321 : Cond.instanceMethod ⟨"KeyedTreeModel", "ofSet", "(II)I"⟩ ∈ gtb := gt_at 856 (by decide +kernel) (by decide +kernel)
theorem wd_322 : Cond.selects "KeyedTreeModel" ⟨"KeyedTreeModel", "ofSet", "(II)I"⟩ ⟨"KeyedTreeModel", "ofSet", "(II)I"⟩ ∈ gtb := gt_sel 43 (by decide +kernel) (by decide +kernel)
theorem wd_323 : Cond.methodLink "KeyedTreeModel" 266 ⟨"KeyedTreeModel", "aboveOf", "(II)I"⟩ ∈ gtb := gt_at 890 (by decide +kernel) (by decide +kernel)
theorem wd_324 : Cond.instanceMethod ⟨"KeyedTreeModel", "aboveOf", "(II)I"⟩ ∈ gtb := gt_at 892 (by decide +kernel) (by decide +kernel)
theorem wd_325 : Cond.selects "KeyedTreeModel" ⟨"KeyedTreeModel", "aboveOf", "(II)I"⟩ ⟨"KeyedTreeModel", "aboveOf", "(II)I"⟩ ∈ gtb := gt_sel 48 (by decide +kernel) (by decide +kernel)
theorem wd_326 : Cond.constantLong "KeyedTreeModel" 269 6 ∈ gtb := gt_at 889 (by decide +kernel) (by decide +kernel)
theorem wd_327 : Cond.methodLink "KeyedTreeModel" 271 ⟨"KeyedTreeModel", "ones", "(J)I"⟩ ∈ gtb := gt_at 894 (by decide +kernel) (by decide +kernel)
theorem wd_328 : Cond.static ⟨"KeyedTreeModel", "ones", "(J)I"⟩ ∈ gtb := gt_at 895 (by decide +kernel) (by decide +kernel)
theorem wd_329 : Cond.methodLink "KeyedTreeModel" 275 ⟨"KeyedTreeModel", "digestAt", "(II)I"⟩ ∈ gtb := gt_at 897 (by decide +kernel) (by decide +kernel)
theorem wd_330 : Cond.instanceMethod ⟨"KeyedTreeModel", "digestAt", "(II)I"⟩ ∈ gtb := gt_at 899 (by decide +kernel) (by decide +kernel)
theorem wd_331 : Cond.selects "KeyedTreeModel" ⟨"KeyedTreeModel", "digestAt", "(II)I"⟩ ⟨"KeyedTreeModel", "digestAt", "(II)I"⟩ ∈ gtb := gt_sel 49 (by decide +kernel) (by decide +kernel)
theorem wd_332 : Cond.methodLink "KeyedTreeModel" 278 ⟨"KeyedTreeModel", "depthOf", "(II)I"⟩ ∈ gtb := gt_at 901 (by decide +kernel) (by decide +kernel)
theorem wd_333 : Cond.instanceMethod ⟨"KeyedTreeModel", "depthOf", "(II)I"⟩ ∈ gtb := gt_at 903 (by decide +kernel) (by decide +kernel)
theorem wd_334 : Cond.selects "KeyedTreeModel" ⟨"KeyedTreeModel", "depthOf", "(II)I"⟩ ⟨"KeyedTreeModel", "depthOf", "(II)I"⟩ ∈ gtb := gt_sel 50 (by decide +kernel) (by decide +kernel)
theorem wd_335 : Cond.methodLink "KeyedTreeModel" 281 ⟨"KeyedTreeModel", "partsAt", "(IIII)I"⟩ ∈ gtb := gt_at 925 (by decide +kernel) (by decide +kernel)
theorem wd_336 : Cond.instanceMethod ⟨"KeyedTreeModel", "partsAt", "(IIII)I"⟩ ∈ gtb := gt_at 927 (by decide +kernel) (by decide +kernel)
theorem wd_337 : Cond.selects "KeyedTreeModel" ⟨"KeyedTreeModel", "partsAt", "(IIII)I"⟩ ⟨"KeyedTreeModel", "partsAt", "(IIII)I"⟩ ∈ gtb := gt_sel 53 (by decide +kernel) (by decide +kernel)
theorem wd_338 : Cond.methodLink "KeyedTreeModel" 290 ⟨"KeyedTreeModel", "shared", "(II)I"⟩ ∈ gtb := gt_at 929 (by decide +kernel) (by decide +kernel)
theorem wd_339 : Cond.instanceMethod ⟨"KeyedTreeModel", "shared", "(II)I"⟩ ∈ gtb := gt_at 931 (by decide +kernel) (by decide +kernel)
theorem wd_340 : Cond.selects "KeyedTreeModel" ⟨"KeyedTreeModel", "shared", "(II)I"⟩ ⟨"KeyedTreeModel", "shared", "(II)I"⟩ ∈ gtb := gt_sel 54 (by decide +kernel) (by decide +kernel)
theorem wd_341 : Cond.methodLink "KeyedTreeModel" 287 ⟨"KeyedTreeModel", "looks", "(II)I"⟩ ∈ gtb := gt_at 921 (by decide +kernel) (by decide +kernel)
theorem wd_342 : Cond.instanceMethod ⟨"KeyedTreeModel", "looks", "(II)I"⟩ ∈ gtb := gt_at 923 (by decide +kernel) (by decide +kernel)
theorem wd_343 : Cond.selects "KeyedTreeModel" ⟨"KeyedTreeModel", "looks", "(II)I"⟩ ⟨"KeyedTreeModel", "looks", "(II)I"⟩ ∈ gtb := gt_sel 52 (by decide +kernel) (by decide +kernel)
theorem wd_344 : Cond.methodLink "KeyedTreeModel" 284 ⟨"KeyedTreeModel", "apartMany", "(II)I"⟩ ∈ gtb := gt_at 917 (by decide +kernel) (by decide +kernel)
theorem wd_345 : Cond.instanceMethod ⟨"KeyedTreeModel", "apartMany", "(II)I"⟩ ∈ gtb := gt_at 919 (by decide +kernel) (by decide +kernel)
theorem wd_346 : Cond.selects "KeyedTreeModel" ⟨"KeyedTreeModel", "apartMany", "(II)I"⟩ ⟨"KeyedTreeModel", "apartMany", "(II)I"⟩ ∈ gtb := gt_sel 51 (by decide +kernel) (by decide +kernel)
theorem wd_347 : Cond.methodLink "KeyedTreeModel" 296 ⟨"KeyedTreeModel", "isFit", "(I)Z"⟩ ∈ gtb := gt_at 949 (by decide +kernel) (by decide +kernel)
theorem wd_348 : Cond.instanceMethod ⟨"KeyedTreeModel", "isFit", "(I)Z"⟩ ∈ gtb := gt_at 951 (by decide +kernel) (by decide +kernel)
theorem wd_349 : Cond.selects "KeyedTreeModel" ⟨"KeyedTreeModel", "isFit", "(I)Z"⟩ ⟨"KeyedTreeModel", "isFit", "(I)Z"⟩ ∈ gtb := gt_sel 55 (by decide +kernel) (by decide +kernel)
theorem wd_350 : Cond.constantLong "KeyedTreeModel" 301 (-3) ∈ gtb := gt_at 958 (by decide +kernel) (by decide +kernel)
theorem wd_351 : Cond.constantLong "KeyedTreeModel" 299 (-1) ∈ gtb := gt_at 957 (by decide +kernel) (by decide +kernel)
theorem wd_352 : Cond.constantLong "KeyedTreeModel" 303 30 ∈ gtb := gt_at 963 (by decide +kernel) (by decide +kernel)
theorem wd_353 : Cond.constantLong "KeyedTreeModel" 305 (-2) ∈ gtb := gt_at 964 (by decide +kernel) (by decide +kernel)
theorem wd_354 : Cond.constantLong "KeyedTreeModel" 307 20 ∈ gtb := gt_at 969 (by decide +kernel) (by decide +kernel)
theorem wd_355 : Cond.constantLong "KeyedTreeModel" 309 (-1000000000000000002) ∈ gtb := gt_at 970 (by decide +kernel) (by decide +kernel)
theorem wd_356 : Cond.methodLink "KeyedTreeModel" 311 ⟨"KeyedTreeModel", "divisor", "(JJ)J"⟩ ∈ gtb := gt_at 971 (by decide +kernel) (by decide +kernel)
theorem wd_357 : Cond.static ⟨"KeyedTreeModel", "divisor", "(JJ)J"⟩ ∈ gtb := gt_at 972 (by decide +kernel) (by decide +kernel)
theorem wd_358 : Cond.methodLink "KeyedTreeModel" 315 ⟨"KeyedTreeModel", "actBy", "(II)I"⟩ ∈ gtb := gt_at 986 (by decide +kernel) (by decide +kernel)
theorem wd_359 : Cond.static ⟨"KeyedTreeModel", "actBy", "(II)I"⟩ ∈ gtb := gt_at 987 (by decide +kernel) (by decide +kernel)
theorem wd_360 : Cond.constantLong "KeyedTreeModel" 318 99 ∈ gtb := gt_at 978 (by decide +kernel) (by decide +kernel)
theorem wd_361 : Cond.constantLong "KeyedTreeModel" 320 75 ∈ gtb := gt_at 979 (by decide +kernel) (by decide +kernel)
theorem wd_362 : Cond.constantLong "KeyedTreeModel" 322 74 ∈ gtb := gt_at 980 (by decide +kernel) (by decide +kernel)
theorem wd_363 : Cond.constantLong "KeyedTreeModel" 324 65537 ∈ gtb := gt_at 981 (by decide +kernel) (by decide +kernel)
theorem wd_364 : Cond.methodLink "KeyedTreeModel" 326 ⟨"KeyedTreeModel", "drawn", "(II)V"⟩ ∈ gtb := gt_at 982 (by decide +kernel) (by decide +kernel)
theorem wd_365 : Cond.instanceMethod ⟨"KeyedTreeModel", "drawn", "(II)V"⟩ ∈ gtb := gt_at 984 (by decide +kernel) (by decide +kernel)
theorem wd_366 : Cond.selects "KeyedTreeModel" ⟨"KeyedTreeModel", "drawn", "(II)V"⟩ ⟨"KeyedTreeModel", "drawn", "(II)V"⟩ ∈ gtb := gt_sel 56 (by decide +kernel) (by decide +kernel)
theorem wd_367 : Cond.methodLink "KeyedTreeModel" 336 ⟨"KeyedTreeModel", "pass", "(I)I"⟩ ∈ gtb := gt_at 997 (by decide +kernel) (by decide +kernel)
theorem wd_368 : Cond.instanceMethod ⟨"KeyedTreeModel", "pass", "(I)I"⟩ ∈ gtb := gt_at 999 (by decide +kernel) (by decide +kernel)
theorem wd_369 : Cond.selects "KeyedTreeModel" ⟨"KeyedTreeModel", "pass", "(I)I"⟩ ⟨"KeyedTreeModel", "pass", "(I)I"⟩ ∈ gtb := gt_sel 58 (by decide +kernel) (by decide +kernel)
theorem wd_370 : Cond.methodLink "KeyedTreeModel" 339 ⟨"KeyedTreeModel", "passRow", "([II)V"⟩ ∈ gtb := gt_at 1001 (by decide +kernel) (by decide +kernel)
theorem wd_371 : Cond.instanceMethod ⟨"KeyedTreeModel", "passRow", "([II)V"⟩ ∈ gtb := gt_at 1003 (by decide +kernel) (by decide +kernel)
theorem wd_372 : Cond.selects "KeyedTreeModel" ⟨"KeyedTreeModel", "passRow", "([II)V"⟩ ⟨"KeyedTreeModel", "passRow", "([II)V"⟩ ∈ gtb := gt_sel 59 (by decide +kernel) (by decide +kernel)
theorem wd_373 : Cond.methodLink "KeyedTreeModel" 343 ⟨"KeyedTreeModel", "passAll", "()V"⟩ ∈ gtb := gt_at 993 (by decide +kernel) (by decide +kernel)
theorem wd_374 : Cond.instanceMethod ⟨"KeyedTreeModel", "passAll", "()V"⟩ ∈ gtb := gt_at 995 (by decide +kernel) (by decide +kernel)
theorem wd_375 : Cond.selects "KeyedTreeModel" ⟨"KeyedTreeModel", "passAll", "()V"⟩ ⟨"KeyedTreeModel", "passAll", "()V"⟩ ∈ gtb := gt_sel 57 (by decide +kernel) (by decide +kernel)
theorem wd_376 : Cond.constantLong "KeyedTreeModel" 346 100 ∈ gtb := gt_at 1013 (by decide +kernel) (by decide +kernel)
theorem wd_377 : Cond.constantLong "KeyedTreeModel" 348 449 ∈ gtb := gt_at 1014 (by decide +kernel) (by decide +kernel)
theorem wd_378 : Cond.constantLong "KeyedTreeModel" 350 10 ∈ gtb := gt_at 1015 (by decide +kernel) (by decide +kernel)
theorem wd_379 : Cond.constantLong "KeyedTreeModel" 352 13 ∈ gtb := gt_at 1016 (by decide +kernel) (by decide +kernel)
theorem wd_380 : Cond.constantLong "KeyedTreeModel" 354 23 ∈ gtb := gt_at 1017 (by decide +kernel) (by decide +kernel)
theorem mc_max : Cond.code Lib.Math.max.name Lib.Math.max.code 2 (some .int) ∈ gtb := gt_at 400 (by decide +kernel) (by decide +kernel)
theorem mc_abs : Cond.code Lib.Math.abs.name Lib.Math.abs.code 1 (some .int) ∈ gtb := gt_at 526 (by decide +kernel) (by decide +kernel)
theorem mc_maxL : Cond.code Lib.MathLoose.max_long.x Lib.MathLoose.max_long.code 4 (some .long) ∈ gtb := gt_at 532 (by decide +kernel) (by decide +kernel)
theorem foX0_9 : FOK RX0 9 0 0 RX0 TX0 4 := ⟨rfl, by decide, fun w h => List.mem_filter.mpr ⟨inX0 w h, List.all_eq_true.mp gdX0 w h⟩, gt_at 89 (by decide +kernel) (by decide +kernel)⟩
theorem foX0_15 : FOK RX0 15 0 1 RX0 TX0 4 := ⟨rfl, by decide, fun w h => List.mem_filter.mpr ⟨inX0 w h, List.all_eq_true.mp gdX0 w h⟩, gt_at 91 (by decide +kernel) (by decide +kernel)⟩
theorem foX0_18 : FOK RX0 18 0 2 RX0 TX0 4 := ⟨rfl, by decide, fun w h => List.mem_filter.mpr ⟨inX0 w h, List.all_eq_true.mp gdX0 w h⟩, gt_at 93 (by decide +kernel) (by decide +kernel)⟩
theorem foX0_21 : FOK RX0 21 0 3 RX0 TX0 4 := ⟨rfl, by decide, fun w h => List.mem_filter.mpr ⟨inX0 w h, List.all_eq_true.mp gdX0 w h⟩, gt_at 95 (by decide +kernel) (by decide +kernel)⟩
theorem foX2_15 : FOK RX2 15 2 1 RX2 TX2 2 := ⟨rfl, by decide, fun w h => List.mem_filter.mpr ⟨inX2 w h, List.all_eq_true.mp gdX2 w h⟩, gt_at 46 (by decide +kernel) (by decide +kernel)⟩
theorem foX2_11 : FOK RX2 11 2 0 RX2 TX2 2 := ⟨rfl, by decide, fun w h => List.mem_filter.mpr ⟨inX2 w h, List.all_eq_true.mp gdX2 w h⟩, gt_at 45 (by decide +kernel) (by decide +kernel)⟩
theorem foX3_11 : FOK RX3 11 3 1 RX3 TX3 2 := ⟨rfl, by decide, fun w h => List.mem_filter.mpr ⟨inX3 w h, List.all_eq_true.mp gdX3 w h⟩, gt_at 69 (by decide +kernel) (by decide +kernel)⟩
theorem foX3_22 : FOK RX3 22 3 0 RX3 TX3 2 := ⟨rfl, by decide, fun w h => List.mem_filter.mpr ⟨inX3 w h, List.all_eq_true.mp gdX3 w h⟩, gt_at 67 (by decide +kernel) (by decide +kernel)⟩
theorem foX4_34 : FOK RX4 34 4 8 RX4 TX4 10 := ⟨rfl, by decide, fun w h => List.mem_filter.mpr ⟨inX4 w h, List.all_eq_true.mp gdX4 w h⟩, gt_at 126 (by decide +kernel) (by decide +kernel)⟩
theorem foX4_31 : FOK RX4 31 4 7 RX4 TX4 10 := ⟨rfl, by decide, fun w h => List.mem_filter.mpr ⟨inX4 w h, List.all_eq_true.mp gdX4 w h⟩, gt_at 125 (by decide +kernel) (by decide +kernel)⟩
theorem foX4_21 : FOK RX4 21 4 3 RX4 TX4 10 := ⟨rfl, by decide, fun w h => List.mem_filter.mpr ⟨inX4 w h, List.all_eq_true.mp gdX4 w h⟩, gt_at 118 (by decide +kernel) (by decide +kernel)⟩
theorem foX4_28 : FOK RX4 28 4 6 RX4 TX4 10 := ⟨rfl, by decide, fun w h => List.mem_filter.mpr ⟨inX4 w h, List.all_eq_true.mp gdX4 w h⟩, gt_at 124 (by decide +kernel) (by decide +kernel)⟩
theorem foX4_25 : FOK RX4 25 4 5 RX4 TX4 10 := ⟨rfl, by decide, fun w h => List.mem_filter.mpr ⟨inX4 w h, List.all_eq_true.mp gdX4 w h⟩, gt_at 123 (by decide +kernel) (by decide +kernel)⟩
theorem foX4_9 : FOK RX4 9 4 0 RX4 TX4 10 := ⟨rfl, by decide, fun w h => List.mem_filter.mpr ⟨inX4 w h, List.all_eq_true.mp gdX4 w h⟩, gt_at 112 (by decide +kernel) (by decide +kernel)⟩
theorem foX4_15 : FOK RX4 15 4 1 RX4 TX4 10 := ⟨rfl, by decide, fun w h => List.mem_filter.mpr ⟨inX4 w h, List.all_eq_true.mp gdX4 w h⟩, gt_at 114 (by decide +kernel) (by decide +kernel)⟩
theorem foX4_18 : FOK RX4 18 4 2 RX4 TX4 10 := ⟨rfl, by decide, fun w h => List.mem_filter.mpr ⟨inX4 w h, List.all_eq_true.mp gdX4 w h⟩, gt_at 116 (by decide +kernel) (by decide +kernel)⟩
theorem foX4_38 : FOK RX4 38 4 9 RX4 TX4 10 := ⟨rfl, by decide, fun w h => List.mem_filter.mpr ⟨inX4 w h, List.all_eq_true.mp gdX4 w h⟩, gt_at 127 (by decide +kernel) (by decide +kernel)⟩
theorem foX4_52 : FOK RX4 52 4 4 RX4 TX4 10 := ⟨rfl, by decide, fun w h => List.mem_filter.mpr ⟨inX4 w h, List.all_eq_true.mp gdX4 w h⟩, gt_at 121 (by decide +kernel) (by decide +kernel)⟩
theorem foX6_9 : FOK RX6 9 6 0 RX6 TX6 2 := ⟨rfl, by decide, fun w h => List.mem_filter.mpr ⟨inX6 w h, List.all_eq_true.mp gdX6 w h⟩, gt_at 27 (by decide +kernel) (by decide +kernel)⟩
theorem foX6_21 : FOK RX6 21 6 1 RX6 TX6 2 := ⟨rfl, by decide, fun w h => List.mem_filter.mpr ⟨inX6 w h, List.all_eq_true.mp gdX6 w h⟩, gt_at 31 (by decide +kernel) (by decide +kernel)⟩
theorem foX6_29 : FOK RX6 29 0 0 RX0 TX0 4 := ⟨rfl, by decide, fun w h => List.mem_filter.mpr ⟨inX0 w h, List.all_eq_true.mp gdX0 w h⟩, gt_at 90 (by decide +kernel) (by decide +kernel)⟩
theorem foX6_34 : FOK RX6 34 0 1 RX0 TX0 4 := ⟨rfl, by decide, fun w h => List.mem_filter.mpr ⟨inX0 w h, List.all_eq_true.mp gdX0 w h⟩, gt_at 92 (by decide +kernel) (by decide +kernel)⟩
theorem foX6_37 : FOK RX6 37 0 2 RX0 TX0 4 := ⟨rfl, by decide, fun w h => List.mem_filter.mpr ⟨inX0 w h, List.all_eq_true.mp gdX0 w h⟩, gt_at 94 (by decide +kernel) (by decide +kernel)⟩
theorem foX6_44 : FOK RX6 44 0 3 RX0 TX0 4 := ⟨rfl, by decide, fun w h => List.mem_filter.mpr ⟨inX0 w h, List.all_eq_true.mp gdX0 w h⟩, gt_at 96 (by decide +kernel) (by decide +kernel)⟩
theorem foX5_35 : FOK RX5 35 5 4 RX5 TX5 10 := ⟨rfl, by decide, fun w h => List.mem_filter.mpr ⟨inX5 w h, List.all_eq_true.mp gdX5 w h⟩, gt_at 159 (by decide +kernel) (by decide +kernel)⟩
theorem foX5_86 : FOK RX5 86 6 0 RX6 TX6 2 := ⟨rfl, by decide, fun w h => List.mem_filter.mpr ⟨inX6 w h, List.all_eq_true.mp gdX6 w h⟩, gt_at 28 (by decide +kernel) (by decide +kernel)⟩
theorem foX5_31 : FOK RX5 31 5 3 RX5 TX5 10 := ⟨rfl, by decide, fun w h => List.mem_filter.mpr ⟨inX5 w h, List.all_eq_true.mp gdX5 w h⟩, gt_at 157 (by decide +kernel) (by decide +kernel)⟩
theorem foX5_21 : FOK RX5 21 5 1 RX5 TX5 10 := ⟨rfl, by decide, fun w h => List.mem_filter.mpr ⟨inX5 w h, List.all_eq_true.mp gdX5 w h⟩, gt_at 153 (by decide +kernel) (by decide +kernel)⟩
theorem foX5_90 : FOK RX5 90 6 1 RX6 TX6 2 := ⟨rfl, by decide, fun w h => List.mem_filter.mpr ⟨inX6 w h, List.all_eq_true.mp gdX6 w h⟩, gt_at 32 (by decide +kernel) (by decide +kernel)⟩
theorem foX5_25 : FOK RX5 25 5 2 RX5 TX5 10 := ⟨rfl, by decide, fun w h => List.mem_filter.mpr ⟨inX5 w h, List.all_eq_true.mp gdX5 w h⟩, gt_at 155 (by decide +kernel) (by decide +kernel)⟩
theorem foX5_101 : FOK RX5 101 4 3 RX4 TX4 10 := ⟨rfl, by decide, fun w h => List.mem_filter.mpr ⟨inX4 w h, List.all_eq_true.mp gdX4 w h⟩, gt_at 119 (by decide +kernel) (by decide +kernel)⟩
theorem foX5_46 : FOK RX5 46 5 7 RX5 TX5 10 := ⟨rfl, by decide, fun w h => List.mem_filter.mpr ⟨inX5 w h, List.all_eq_true.mp gdX5 w h⟩, gt_at 164 (by decide +kernel) (by decide +kernel)⟩
theorem foX5_52 : FOK RX5 52 5 8 RX5 TX5 10 := ⟨rfl, by decide, fun w h => List.mem_filter.mpr ⟨inX5 w h, List.all_eq_true.mp gdX5 w h⟩, gt_at 166 (by decide +kernel) (by decide +kernel)⟩
theorem foX5_42 : FOK RX5 42 5 5 RX5 TX5 10 := ⟨rfl, by decide, fun w h => List.mem_filter.mpr ⟨inX5 w h, List.all_eq_true.mp gdX5 w h⟩, gt_at 160 (by decide +kernel) (by decide +kernel)⟩
theorem foX5_55 : FOK RX5 55 5 9 RX5 TX5 10 := ⟨rfl, by decide, fun w h => List.mem_filter.mpr ⟨inX5 w h, List.all_eq_true.mp gdX5 w h⟩, gt_at 168 (by decide +kernel) (by decide +kernel)⟩
theorem foX5_49 : FOK RX5 49 5 6 RX5 TX5 10 := ⟨rfl, by decide, fun w h => List.mem_filter.mpr ⟨inX5 w h, List.all_eq_true.mp gdX5 w h⟩, gt_at 162 (by decide +kernel) (by decide +kernel)⟩
theorem foX5_58 : FOK RX5 58 2 1 RX2 TX2 2 := ⟨rfl, by decide, fun w h => List.mem_filter.mpr ⟨inX2 w h, List.all_eq_true.mp gdX2 w h⟩, gt_at 47 (by decide +kernel) (by decide +kernel)⟩
theorem foX5_12 : FOK RX5 12 5 0 RX5 TX5 10 := ⟨rfl, by decide, fun w h => List.mem_filter.mpr ⟨inX5 w h, List.all_eq_true.mp gdX5 w h⟩, gt_at 151 (by decide +kernel) (by decide +kernel)⟩
theorem foX7_10 : FOK RX7 10 7 0 RX7 TX7 9 := ⟨rfl, by decide, fun w h => List.mem_filter.mpr ⟨inX7 w h, List.all_eq_true.mp gdX7 w h⟩, gt_at 212 (by decide +kernel) (by decide +kernel)⟩
theorem foX7_69 : FOK RX7 69 6 1 RX6 TX6 2 := ⟨rfl, by decide, fun w h => List.mem_filter.mpr ⟨inX6 w h, List.all_eq_true.mp gdX6 w h⟩, gt_at 30 (by decide +kernel) (by decide +kernel)⟩
theorem foX7_79 : FOK RX7 79 6 0 RX6 TX6 2 := ⟨rfl, by decide, fun w h => List.mem_filter.mpr ⟨inX6 w h, List.all_eq_true.mp gdX6 w h⟩, gt_at 29 (by decide +kernel) (by decide +kernel)⟩
theorem foX7_22 : FOK RX7 22 7 2 RX7 TX7 9 := ⟨rfl, by decide, fun w h => List.mem_filter.mpr ⟨inX7 w h, List.all_eq_true.mp gdX7 w h⟩, gt_at 214 (by decide +kernel) (by decide +kernel)⟩
theorem foX7_100 : FOK RX7 100 2 1 RX2 TX2 2 := ⟨rfl, by decide, fun w h => List.mem_filter.mpr ⟨inX2 w h, List.all_eq_true.mp gdX2 w h⟩, gt_at 48 (by decide +kernel) (by decide +kernel)⟩
theorem foX7_42 : FOK RX7 42 7 5 RX7 TX7 9 := ⟨rfl, by decide, fun w h => List.mem_filter.mpr ⟨inX7 w h, List.all_eq_true.mp gdX7 w h⟩, gt_at 217 (by decide +kernel) (by decide +kernel)⟩
theorem foX7_118 : FOK RX7 118 5 6 RX5 TX5 10 := ⟨rfl, by decide, fun w h => List.mem_filter.mpr ⟨inX5 w h, List.all_eq_true.mp gdX5 w h⟩, gt_at 163 (by decide +kernel) (by decide +kernel)⟩
theorem foX7_112 : FOK RX7 112 5 7 RX5 TX5 10 := ⟨rfl, by decide, fun w h => List.mem_filter.mpr ⟨inX5 w h, List.all_eq_true.mp gdX5 w h⟩, gt_at 165 (by decide +kernel) (by decide +kernel)⟩
theorem foX7_115 : FOK RX7 115 5 5 RX5 TX5 10 := ⟨rfl, by decide, fun w h => List.mem_filter.mpr ⟨inX5 w h, List.all_eq_true.mp gdX5 w h⟩, gt_at 161 (by decide +kernel) (by decide +kernel)⟩
theorem foX7_55 : FOK RX7 55 7 7 RX7 TX7 9 := ⟨rfl, by decide, fun w h => List.mem_filter.mpr ⟨inX7 w h, List.all_eq_true.mp gdX7 w h⟩, gt_at 219 (by decide +kernel) (by decide +kernel)⟩
theorem foX7_121 : FOK RX7 121 5 3 RX5 TX5 10 := ⟨rfl, by decide, fun w h => List.mem_filter.mpr ⟨inX5 w h, List.all_eq_true.mp gdX5 w h⟩, gt_at 158 (by decide +kernel) (by decide +kernel)⟩
theorem foX7_130 : FOK RX7 130 4 4 RX4 TX4 10 := ⟨rfl, by decide, fun w h => List.mem_filter.mpr ⟨inX4 w h, List.all_eq_true.mp gdX4 w h⟩, gt_at 122 (by decide +kernel) (by decide +kernel)⟩
theorem foX7_143 : FOK RX7 143 5 8 RX5 TX5 10 := ⟨rfl, by decide, fun w h => List.mem_filter.mpr ⟨inX5 w h, List.all_eq_true.mp gdX5 w h⟩, gt_at 167 (by decide +kernel) (by decide +kernel)⟩
theorem foX7_146 : FOK RX7 146 5 9 RX5 TX5 10 := ⟨rfl, by decide, fun w h => List.mem_filter.mpr ⟨inX5 w h, List.all_eq_true.mp gdX5 w h⟩, gt_at 169 (by decide +kernel) (by decide +kernel)⟩
theorem foX7_157 : FOK RX7 157 4 2 RX4 TX4 10 := ⟨rfl, by decide, fun w h => List.mem_filter.mpr ⟨inX4 w h, List.all_eq_true.mp gdX4 w h⟩, gt_at 117 (by decide +kernel) (by decide +kernel)⟩
theorem foX7_161 : FOK RX7 161 4 0 RX4 TX4 10 := ⟨rfl, by decide, fun w h => List.mem_filter.mpr ⟨inX4 w h, List.all_eq_true.mp gdX4 w h⟩, gt_at 113 (by decide +kernel) (by decide +kernel)⟩
theorem foX7_164 : FOK RX7 164 4 1 RX4 TX4 10 := ⟨rfl, by decide, fun w h => List.mem_filter.mpr ⟨inX4 w h, List.all_eq_true.mp gdX4 w h⟩, gt_at 115 (by decide +kernel) (by decide +kernel)⟩
theorem foX7_61 : FOK RX7 61 7 8 RX7 TX7 9 := ⟨rfl, by decide, fun w h => List.mem_filter.mpr ⟨inX7 w h, List.all_eq_true.mp gdX7 w h⟩, gt_at 220 (by decide +kernel) (by decide +kernel)⟩
theorem foX7_193 : FOK RX7 193 4 3 RX4 TX4 10 := ⟨rfl, by decide, fun w h => List.mem_filter.mpr ⟨inX4 w h, List.all_eq_true.mp gdX4 w h⟩, gt_at 120 (by decide +kernel) (by decide +kernel)⟩
theorem foX7_29 : FOK RX7 29 7 3 RX7 TX7 9 := ⟨rfl, by decide, fun w h => List.mem_filter.mpr ⟨inX7 w h, List.all_eq_true.mp gdX7 w h⟩, gt_at 215 (by decide +kernel) (by decide +kernel)⟩
theorem foX7_200 : FOK RX7 200 3 0 RX3 TX3 2 := ⟨rfl, by decide, fun w h => List.mem_filter.mpr ⟨inX3 w h, List.all_eq_true.mp gdX3 w h⟩, gt_at 68 (by decide +kernel) (by decide +kernel)⟩
theorem foX7_16 : FOK RX7 16 7 1 RX7 TX7 9 := ⟨rfl, by decide, fun w h => List.mem_filter.mpr ⟨inX7 w h, List.all_eq_true.mp gdX7 w h⟩, gt_at 213 (by decide +kernel) (by decide +kernel)⟩
theorem foX7_50 : FOK RX7 50 7 6 RX7 TX7 9 := ⟨rfl, by decide, fun w h => List.mem_filter.mpr ⟨inX7 w h, List.all_eq_true.mp gdX7 w h⟩, gt_at 218 (by decide +kernel) (by decide +kernel)⟩
theorem foX7_35 : FOK RX7 35 7 4 RX7 TX7 9 := ⟨rfl, by decide, fun w h => List.mem_filter.mpr ⟨inX7 w h, List.all_eq_true.mp gdX7 w h⟩, gt_at 216 (by decide +kernel) (by decide +kernel)⟩
theorem foX7_247 : FOK RX7 247 1 0 RX1 TX1 3 := ⟨rfl, by decide, fun w h => List.mem_filter.mpr ⟨inX1 w h, List.all_eq_true.mp gdX1 w h⟩, gt_at 200 (by decide +kernel) (by decide +kernel)⟩
theorem foX7_251 : FOK RX7 251 1 1 RX1 TX1 3 := ⟨rfl, by decide, fun w h => List.mem_filter.mpr ⟨inX1 w h, List.all_eq_true.mp gdX1 w h⟩, gt_at 202 (by decide +kernel) (by decide +kernel)⟩
theorem foX7_254 : FOK RX7 254 1 2 RX1 TX1 3 := ⟨rfl, by decide, fun w h => List.mem_filter.mpr ⟨inX1 w h, List.all_eq_true.mp gdX1 w h⟩, gt_at 204 (by decide +kernel) (by decide +kernel)⟩
theorem foX8_7 : FOK RX8 7 8 1 RX8 TX8 30 := ⟨rfl, by decide, fun w h => List.mem_filter.mpr ⟨inX8 w h, List.all_eq_true.mp gdX8 w h⟩, gt_at 581 (by decide +kernel) (by decide +kernel)⟩
theorem foX8_78 : FOK RX8 78 8 0 RX8 TX8 30 := ⟨rfl, by decide, fun w h => List.mem_filter.mpr ⟨inX8 w h, List.all_eq_true.mp gdX8 w h⟩, gt_at 580 (by decide +kernel) (by decide +kernel)⟩
theorem foX8_107 : FOK RX8 107 8 6 RX8 TX8 30 := ⟨rfl, by decide, fun w h => List.mem_filter.mpr ⟨inX8 w h, List.all_eq_true.mp gdX8 w h⟩, gt_at 586 (by decide +kernel) (by decide +kernel)⟩
theorem foX8_19 : FOK RX8 19 8 5 RX8 TX8 30 := ⟨rfl, by decide, fun w h => List.mem_filter.mpr ⟨inX8 w h, List.all_eq_true.mp gdX8 w h⟩, gt_at 585 (by decide +kernel) (by decide +kernel)⟩
theorem foX8_110 : FOK RX8 110 8 11 RX8 TX8 30 := ⟨rfl, by decide, fun w h => List.mem_filter.mpr ⟨inX8 w h, List.all_eq_true.mp gdX8 w h⟩, gt_at 591 (by decide +kernel) (by decide +kernel)⟩
theorem foX8_25 : FOK RX8 25 8 8 RX8 TX8 30 := ⟨rfl, by decide, fun w h => List.mem_filter.mpr ⟨inX8 w h, List.all_eq_true.mp gdX8 w h⟩, gt_at 588 (by decide +kernel) (by decide +kernel)⟩
theorem foX8_28 : FOK RX8 28 8 9 RX8 TX8 30 := ⟨rfl, by decide, fun w h => List.mem_filter.mpr ⟨inX8 w h, List.all_eq_true.mp gdX8 w h⟩, gt_at 589 (by decide +kernel) (by decide +kernel)⟩
theorem foX8_31 : FOK RX8 31 8 10 RX8 TX8 30 := ⟨rfl, by decide, fun w h => List.mem_filter.mpr ⟨inX8 w h, List.all_eq_true.mp gdX8 w h⟩, gt_at 590 (by decide +kernel) (by decide +kernel)⟩
theorem foX8_22 : FOK RX8 22 8 7 RX8 TX8 30 := ⟨rfl, by decide, fun w h => List.mem_filter.mpr ⟨inX8 w h, List.all_eq_true.mp gdX8 w h⟩, gt_at 587 (by decide +kernel) (by decide +kernel)⟩
theorem foX8_34 : FOK RX8 34 8 12 RX8 TX8 30 := ⟨rfl, by decide, fun w h => List.mem_filter.mpr ⟨inX8 w h, List.all_eq_true.mp gdX8 w h⟩, gt_at 592 (by decide +kernel) (by decide +kernel)⟩
theorem foX8_37 : FOK RX8 37 8 13 RX8 TX8 30 := ⟨rfl, by decide, fun w h => List.mem_filter.mpr ⟨inX8 w h, List.all_eq_true.mp gdX8 w h⟩, gt_at 593 (by decide +kernel) (by decide +kernel)⟩
theorem foX8_41 : FOK RX8 41 8 14 RX8 TX8 30 := ⟨rfl, by decide, fun w h => List.mem_filter.mpr ⟨inX8 w h, List.all_eq_true.mp gdX8 w h⟩, gt_at 594 (by decide +kernel) (by decide +kernel)⟩
theorem foX8_44 : FOK RX8 44 8 15 RX8 TX8 30 := ⟨rfl, by decide, fun w h => List.mem_filter.mpr ⟨inX8 w h, List.all_eq_true.mp gdX8 w h⟩, gt_at 595 (by decide +kernel) (by decide +kernel)⟩
theorem foX8_47 : FOK RX8 47 8 22 RX8 TX8 30 := ⟨rfl, by decide, fun w h => List.mem_filter.mpr ⟨inX8 w h, List.all_eq_true.mp gdX8 w h⟩, gt_at 602 (by decide +kernel) (by decide +kernel)⟩
theorem foX8_203 : FOK RX8 203 8 21 RX8 TX8 30 := ⟨rfl, by decide, fun w h => List.mem_filter.mpr ⟨inX8 w h, List.all_eq_true.mp gdX8 w h⟩, gt_at 601 (by decide +kernel) (by decide +kernel)⟩
theorem foX8_213 : FOK RX8 213 8 20 RX8 TX8 30 := ⟨rfl, by decide, fun w h => List.mem_filter.mpr ⟨inX8 w h, List.all_eq_true.mp gdX8 w h⟩, gt_at 600 (by decide +kernel) (by decide +kernel)⟩
theorem foX8_219 : FOK RX8 219 8 18 RX8 TX8 30 := ⟨rfl, by decide, fun w h => List.mem_filter.mpr ⟨inX8 w h, List.all_eq_true.mp gdX8 w h⟩, gt_at 598 (by decide +kernel) (by decide +kernel)⟩
theorem foX8_225 : FOK RX8 225 8 19 RX8 TX8 30 := ⟨rfl, by decide, fun w h => List.mem_filter.mpr ⟨inX8 w h, List.all_eq_true.mp gdX8 w h⟩, gt_at 599 (by decide +kernel) (by decide +kernel)⟩
theorem foX8_228 : FOK RX8 228 8 16 RX8 TX8 30 := ⟨rfl, by decide, fun w h => List.mem_filter.mpr ⟨inX8 w h, List.all_eq_true.mp gdX8 w h⟩, gt_at 596 (by decide +kernel) (by decide +kernel)⟩
theorem foX8_231 : FOK RX8 231 8 17 RX8 TX8 30 := ⟨rfl, by decide, fun w h => List.mem_filter.mpr ⟨inX8 w h, List.all_eq_true.mp gdX8 w h⟩, gt_at 597 (by decide +kernel) (by decide +kernel)⟩
theorem foX8_50 : FOK RX8 50 8 23 RX8 TX8 30 := ⟨rfl, by decide, fun w h => List.mem_filter.mpr ⟨inX8 w h, List.all_eq_true.mp gdX8 w h⟩, gt_at 603 (by decide +kernel) (by decide +kernel)⟩
theorem foX8_53 : FOK RX8 53 8 24 RX8 TX8 30 := ⟨rfl, by decide, fun w h => List.mem_filter.mpr ⟨inX8 w h, List.all_eq_true.mp gdX8 w h⟩, gt_at 604 (by decide +kernel) (by decide +kernel)⟩
theorem foX8_293 : FOK RX8 293 8 4 RX8 TX8 30 := ⟨rfl, by decide, fun w h => List.mem_filter.mpr ⟨inX8 w h, List.all_eq_true.mp gdX8 w h⟩, gt_at 584 (by decide +kernel) (by decide +kernel)⟩
theorem foX8_13 : FOK RX8 13 8 2 RX8 TX8 30 := ⟨rfl, by decide, fun w h => List.mem_filter.mpr ⟨inX8 w h, List.all_eq_true.mp gdX8 w h⟩, gt_at 582 (by decide +kernel) (by decide +kernel)⟩
theorem foX8_16 : FOK RX8 16 8 3 RX8 TX8 30 := ⟨rfl, by decide, fun w h => List.mem_filter.mpr ⟨inX8 w h, List.all_eq_true.mp gdX8 w h⟩, gt_at 583 (by decide +kernel) (by decide +kernel)⟩
theorem foX8_56 : FOK RX8 56 8 25 RX8 TX8 30 := ⟨rfl, by decide, fun w h => List.mem_filter.mpr ⟨inX8 w h, List.all_eq_true.mp gdX8 w h⟩, gt_at 605 (by decide +kernel) (by decide +kernel)⟩
theorem foX8_330 : FOK RX8 330 8 29 RX8 TX8 30 := ⟨rfl, by decide, fun w h => List.mem_filter.mpr ⟨inX8 w h, List.all_eq_true.mp gdX8 w h⟩, gt_at 609 (by decide +kernel) (by decide +kernel)⟩
theorem foX8_59 : FOK RX8 59 8 26 RX8 TX8 30 := ⟨rfl, by decide, fun w h => List.mem_filter.mpr ⟨inX8 w h, List.all_eq_true.mp gdX8 w h⟩, gt_at 606 (by decide +kernel) (by decide +kernel)⟩
theorem foX8_333 : FOK RX8 333 8 28 RX8 TX8 30 := ⟨rfl, by decide, fun w h => List.mem_filter.mpr ⟨inX8 w h, List.all_eq_true.mp gdX8 w h⟩, gt_at 608 (by decide +kernel) (by decide +kernel)⟩
theorem foX8_62 : FOK RX8 62 8 27 RX8 TX8 30 := ⟨rfl, by decide, fun w h => List.mem_filter.mpr ⟨inX8 w h, List.all_eq_true.mp gdX8 w h⟩, gt_at 607 (by decide +kernel) (by decide +kernel)⟩
theorem koX0_24 : VOK RX0 24 yX0_become cX0_become 5 none 4 := ⟨⟨wd_1, (show Cond.initialized "KeyedTree$Act" ∈ gtb from wd_0), (gt_at 343 (by decide +kernel) (by decide +kernel)), ⟨by decide +kernel, by decide +kernel, by decide +kernel⟩, by decide⟩, wd_2, wd_3⟩
theorem koX2_39 : NOK RX2 39 yX7_isSet cX7_isSet 1 (some .boolean) 1 "KeyedTree" := ⟨⟨List.mem_of_getElem? (i := 8) (by decide +kernel), (show Cond.initialized "KeyedTree" ∈ gtb from wd_4), (gt_at 253 (by decide +kernel) (by decide +kernel)), ⟨by decide +kernel, by decide +kernel, by decide +kernel⟩, by decide⟩, wd_5⟩
theorem koX2_25 : SOK RX2 25 yX2_isLetter cX2_isLetter 1 (some .boolean) 1 := ⟨⟨wd_7, (show Cond.initialized "KeyedTree$Pad" ∈ gtb from wd_6), (gt_at 302 (by decide +kernel) (by decide +kernel)), ⟨by decide +kernel, by decide +kernel, by decide +kernel⟩, by decide⟩, wd_8⟩
theorem koX2_29 : SOK RX2 29 yX2_followKind cX2_followKind 1 (some .int) 1 := ⟨⟨wd_9, (show Cond.initialized "KeyedTree$Pad" ∈ gtb from wd_6), (gt_at 306 (by decide +kernel) (by decide +kernel)), ⟨by decide +kernel, by decide +kernel, by decide +kernel⟩, by decide⟩, wd_10⟩
theorem koX2_33 : SOK RX2 33 yX2_isTens cX2_isTens 1 (some .boolean) 1 := ⟨⟨wd_11, (show Cond.initialized "KeyedTree$Pad" ∈ gtb from wd_6), (gt_at 309 (by decide +kernel) (by decide +kernel)), ⟨by decide +kernel, by decide +kernel, by decide +kernel⟩, by decide⟩, wd_12⟩
theorem koX2_36 : SOK RX2 36 yX2_isFigure cX2_isFigure 1 (some .boolean) 1 := ⟨⟨wd_13, (show Cond.initialized "KeyedTree$Pad" ∈ gtb from wd_6), (gt_at 312 (by decide +kernel) (by decide +kernel)), ⟨by decide +kernel, by decide +kernel, by decide +kernel⟩, by decide⟩, wd_14⟩
theorem koX2_19 : SOK RX2 19 yX2_follow cX2_follow 2 (some .int) 2 := ⟨⟨wd_15, (show Cond.initialized "KeyedTree$Pad" ∈ gtb from wd_6), (gt_at 299 (by decide +kernel) (by decide +kernel)), ⟨by decide +kernel, by decide +kernel, by decide +kernel⟩, by decide⟩, wd_16⟩
theorem koX2_42 : VOK RX2 42 yX2_sign cX2_sign 2 (some .int) 1 := ⟨⟨wd_17, (show Cond.initialized "KeyedTree$Pad" ∈ gtb from wd_6), (gt_at 339 (by decide +kernel) (by decide +kernel)), ⟨by decide +kernel, by decide +kernel, by decide +kernel⟩, by decide⟩, wd_18, wd_19⟩
theorem koX2_49 : VOK RX2 49 yX2_setAt cX2_setAt 3 (some .int) 1 := ⟨⟨wd_20, (show Cond.initialized "KeyedTree$Pad" ∈ gtb from wd_6), (gt_at 347 (by decide +kernel) (by decide +kernel)), ⟨by decide +kernel, by decide +kernel, by decide +kernel⟩, by decide⟩, wd_21, wd_22⟩
theorem koX2_45 : VOK RX2 45 yX0_become cX0_become 5 none 4 := ⟨⟨wd_23, (show Cond.initialized "KeyedTree$Act" ∈ gtb from wd_0), (gt_at 343 (by decide +kernel) (by decide +kernel)), ⟨by decide +kernel, by decide +kernel, by decide +kernel⟩, by decide⟩, wd_2, wd_3⟩
theorem koX3_15 : VOK RX3 15 yX3_fill cX3_fill 2 none 0 := ⟨⟨wd_27, (show Cond.initialized "KeyedTree$Sights" ∈ gtb from wd_26), (gt_at 64 (by decide +kernel) (by decide +kernel)), ⟨by decide +kernel, by decide +kernel, by decide +kernel⟩, by decide⟩, wd_28, wd_29⟩
theorem koX7_170 : SOK RX7 170 yX7_priority cX7_priority 3 (some .int) 2 := ⟨⟨wd_34, (show Cond.initialized "KeyedTree" ∈ gtb from wd_4), (gt_at 383 (by decide +kernel) (by decide +kernel)), ⟨by decide +kernel, by decide +kernel, by decide +kernel⟩, by decide⟩, wd_35⟩
theorem koX3_32 : NOK RX3 32 yX7_ranksAbove cX7_ranksAbove 5 (some .boolean) 3 "KeyedTree" := ⟨⟨List.mem_of_getElem? (i := 18) (by decide +kernel), (show Cond.initialized "KeyedTree" ∈ gtb from wd_4), (gt_at 466 (by decide +kernel) (by decide +kernel)), ⟨by decide +kernel, by decide +kernel, by decide +kernel⟩, by decide⟩, wd_36⟩
theorem koX3_36 : SOK RX3 36 yJ13_bitCount_95d88 cJ13_bitCount_95d88 2 (some .int) 1 := ⟨⟨wd_41, (show Cond.initialized "java/lang/Long" ∈ gtb from wd_40), (gt_at 268 (by decide +kernel) (by decide +kernel)), ⟨by decide +kernel, by decide +kernel, by decide +kernel⟩, by decide⟩, wd_42⟩
theorem koX3_42 : SOK RX3 42 yX3_pickBit cX3_pickBit 5 (some .int) 2 := ⟨⟨wd_43, (show Cond.initialized "KeyedTree$Sights" ∈ gtb from wd_26), (gt_at 507 (by decide +kernel) (by decide +kernel)), ⟨by decide +kernel, by decide +kernel, by decide +kernel⟩, by decide⟩, wd_44⟩
theorem koX4_55 : NOK RX4 55 yX7_priority cX7_priority 3 (some .int) 2 "KeyedTree" := ⟨⟨List.mem_of_getElem? (i := 13) (by decide +kernel), (show Cond.initialized "KeyedTree" ∈ gtb from wd_4), (gt_at 383 (by decide +kernel) (by decide +kernel)), ⟨by decide +kernel, by decide +kernel, by decide +kernel⟩, by decide⟩, wd_35⟩
theorem koX7_91 : SOK RX7 91 yX7_bit cX7_bit 1 (some .long) 1 := ⟨⟨wd_45, (show Cond.initialized "KeyedTree" ∈ gtb from wd_4), (gt_at 262 (by decide +kernel) (by decide +kernel)), ⟨by decide +kernel, by decide +kernel, by decide +kernel⟩, by decide⟩, wd_46⟩
theorem koX4_58 : NOK RX4 58 yX7_bit cX7_bit 1 (some .long) 1 "KeyedTree" := ⟨⟨List.mem_of_getElem? (i := 15) (by decide +kernel), (show Cond.initialized "KeyedTree" ∈ gtb from wd_4), (gt_at 262 (by decide +kernel) (by decide +kernel)), ⟨by decide +kernel, by decide +kernel, by decide +kernel⟩, by decide⟩, wd_46⟩
theorem koX4_62 : VOK RX4 62 yX4_spanBelow cX4_spanBelow 2 (some .long) 1 := ⟨⟨wd_48, (show Cond.initialized "KeyedTree$Tree" ∈ gtb from wd_47), (gt_at 393 (by decide +kernel) (by decide +kernel)), ⟨by decide +kernel, by decide +kernel, by decide +kernel⟩, by decide⟩, wd_49, wd_50⟩
theorem koX4_65 : VOK RX4 65 yX4_heightBelow cX4_heightBelow 2 (some .int) 1 := ⟨⟨wd_51, (show Cond.initialized "KeyedTree$Tree" ∈ gtb from wd_47), (gt_at 397 (by decide +kernel) (by decide +kernel)), ⟨by decide +kernel, by decide +kernel, by decide +kernel⟩, by decide⟩, wd_52, wd_53⟩
theorem koX4_74 : VOK RX4 74 yX4_digestBelow cX4_digestBelow 2 (some .int) 1 := ⟨⟨wd_57, (show Cond.initialized "KeyedTree$Tree" ∈ gtb from wd_47), (gt_at 404 (by decide +kernel) (by decide +kernel)), ⟨by decide +kernel, by decide +kernel, by decide +kernel⟩, by decide⟩, wd_58, wd_59⟩
theorem koX4_41 : VOK RX4 41 yX4_price cX4_price 3 none 1 := ⟨⟨wd_61, (show Cond.initialized "KeyedTree$Tree" ∈ gtb from wd_47), (gt_at 380 (by decide +kernel) (by decide +kernel)), ⟨by decide +kernel, by decide +kernel, by decide +kernel⟩, by decide⟩, wd_62, wd_63⟩
theorem koX4_45 : NOK RX4 45 yX7_isIn cX7_isIn 3 (some .boolean) 2 "KeyedTree" := ⟨⟨List.mem_of_getElem? (i := 14) (by decide +kernel), (show Cond.initialized "KeyedTree" ∈ gtb from wd_4), (gt_at 259 (by decide +kernel) (by decide +kernel)), ⟨by decide +kernel, by decide +kernel, by decide +kernel⟩, by decide⟩, wd_64⟩
theorem koX4_49 : VOK RX4 49 yX4_finish cX4_finish 4 none 1 := ⟨⟨wd_65, (show Cond.initialized "KeyedTree$Tree" ∈ gtb from wd_47), (gt_at 388 (by decide +kernel) (by decide +kernel)), ⟨by decide +kernel, by decide +kernel, by decide +kernel⟩, by decide⟩, wd_66, wd_67⟩
theorem koX7_261 : SOK RX7 261 yJ13_bitCount_95d88 cJ13_bitCount_95d88 2 (some .int) 1 := ⟨⟨wd_68, (show Cond.initialized "java/lang/Long" ∈ gtb from wd_40), (gt_at 268 (by decide +kernel) (by decide +kernel)), ⟨by decide +kernel, by decide +kernel, by decide +kernel⟩, by decide⟩, wd_42⟩
theorem koX4_78 : NOK RX4 78 yX7_count cX7_count 2 (some .int) 1 "KeyedTree" := ⟨⟨List.mem_of_getElem? (i := 17) (by decide +kernel), (show Cond.initialized "KeyedTree" ∈ gtb from wd_4), (gt_at 265 (by decide +kernel) (by decide +kernel)), ⟨by decide +kernel, by decide +kernel, by decide +kernel⟩, by decide⟩, wd_69⟩
theorem koX6_51 : NOK RX6 51 yX7_isIn cX7_isIn 3 (some .boolean) 2 "KeyedTree" := ⟨⟨List.mem_of_getElem? (i := 9) (by decide +kernel), (show Cond.initialized "KeyedTree" ∈ gtb from wd_4), (gt_at 259 (by decide +kernel) (by decide +kernel)), ⟨by decide +kernel, by decide +kernel, by decide +kernel⟩, by decide⟩, wd_64⟩
theorem koX6_25 : NOK RX6 25 yX7_count cX7_count 2 (some .int) 1 "KeyedTree" := ⟨⟨List.mem_of_getElem? (i := 10) (by decide +kernel), (show Cond.initialized "KeyedTree" ∈ gtb from wd_4), (gt_at 265 (by decide +kernel) (by decide +kernel)), ⟨by decide +kernel, by decide +kernel, by decide +kernel⟩, by decide⟩, wd_69⟩
theorem koX6_40 : SOK RX6 40 yX6_whyNotOne cX6_whyNotOne 4 (some .int) 3 := ⟨⟨wd_72, (show Cond.initialized "KeyedTree$World" ∈ gtb from wd_71), (gt_at 354 (by decide +kernel) (by decide +kernel)), ⟨by decide +kernel, by decide +kernel, by decide +kernel⟩, by decide⟩, wd_73⟩
theorem koX6_47 : SOK RX6 47 yX6_whyNotTwo cX6_whyNotTwo 5 (some .int) 3 := ⟨⟨wd_74, (show Cond.initialized "KeyedTree$World" ∈ gtb from wd_71), (gt_at 359 (by decide +kernel) (by decide +kernel)), ⟨by decide +kernel, by decide +kernel, by decide +kernel⟩, by decide⟩, wd_75⟩
theorem koX6_55 : NOK RX6 55 yX7_bit cX7_bit 1 (some .long) 1 "KeyedTree" := ⟨⟨List.mem_of_getElem? (i := 11) (by decide +kernel), (show Cond.initialized "KeyedTree" ∈ gtb from wd_4), (gt_at 262 (by decide +kernel) (by decide +kernel)), ⟨by decide +kernel, by decide +kernel, by decide +kernel⟩, by decide⟩, wd_46⟩
theorem koX6_61 : NOK RX6 61 yX7_less cX7_less 1 (some .long) 1 "KeyedTree" := ⟨⟨List.mem_of_getElem? (i := 12) (by decide +kernel), (show Cond.initialized "KeyedTree" ∈ gtb from wd_4), (gt_at 368 (by decide +kernel) (by decide +kernel)), ⟨by decide +kernel, by decide +kernel, by decide +kernel⟩, by decide⟩, wd_77⟩
theorem koX5_93 : VOK RX5 93 yX4_grow cX4_grow 6 none 2 := ⟨⟨wd_78, (show Cond.initialized "KeyedTree$Tree" ∈ gtb from wd_47), (gt_at 376 (by decide +kernel) (by decide +kernel)), ⟨by decide +kernel, by decide +kernel, by decide +kernel⟩, by decide⟩, wd_79, wd_80⟩
theorem koX5_97 : NOK RX5 97 yX7_isIn cX7_isIn 3 (some .boolean) 2 "KeyedTree" := ⟨⟨List.mem_of_getElem? (i := 16) (by decide +kernel), (show Cond.initialized "KeyedTree" ∈ gtb from wd_4), (gt_at 259 (by decide +kernel) (by decide +kernel)), ⟨by decide +kernel, by decide +kernel, by decide +kernel⟩, by decide⟩, wd_64⟩
theorem koX5_104 : SOK RX5 104 yX5_sameKeys cX5_sameKeys 3 (some .boolean) 3 := ⟨⟨wd_82, (show Cond.initialized "KeyedTree$Trial" ∈ gtb from wd_81), (gt_at 413 (by decide +kernel) (by decide +kernel)), ⟨by decide +kernel, by decide +kernel, by decide +kernel⟩, by decide⟩, wd_83⟩
theorem koX5_38 : VOK RX5 38 yX6_copy cX6_copy 2 none 1 := ⟨⟨wd_84, (show Cond.initialized "KeyedTree$World" ∈ gtb from wd_71), (gt_at 328 (by decide +kernel) (by decide +kernel)), ⟨by decide +kernel, by decide +kernel, by decide +kernel⟩, by decide⟩, wd_85, wd_86⟩
theorem koX5_63 : VOK RX5 63 yX2_read cX2_read 6 (some .int) 2 := ⟨⟨wd_87, (show Cond.initialized "KeyedTree$Pad" ∈ gtb from wd_6), (gt_at 335 (by decide +kernel) (by decide +kernel)), ⟨by decide +kernel, by decide +kernel, by decide +kernel⟩, by decide⟩, wd_88, wd_89⟩
theorem koX5_67 : VOK RX5 67 yX6_whyNot cX6_whyNot 2 (some .int) 1 := ⟨⟨wd_90, (show Cond.initialized "KeyedTree$World" ∈ gtb from wd_71), (gt_at 351 (by decide +kernel) (by decide +kernel)), ⟨by decide +kernel, by decide +kernel, by decide +kernel⟩, by decide⟩, wd_91, wd_92⟩
theorem koX5_70 : VOK RX5 70 yX6_play cX6_play 6 none 1 := ⟨⟨wd_93, (show Cond.initialized "KeyedTree$World" ∈ gtb from wd_71), (gt_at 363 (by decide +kernel) (by decide +kernel)), ⟨by decide +kernel, by decide +kernel, by decide +kernel⟩, by decide⟩, wd_94, wd_95⟩
theorem koX5_74 : VOK RX5 74 yX5_addWork cX5_addWork 3 none 0 := ⟨⟨wd_96, (show Cond.initialized "KeyedTree$Trial" ∈ gtb from wd_81), (gt_at 372 (by decide +kernel) (by decide +kernel)), ⟨by decide +kernel, by decide +kernel, by decide +kernel⟩, by decide⟩, wd_97, wd_98⟩
theorem koX5_77 : VOK RX5 77 yX5_seekAlike cX5_seekAlike 3 none 0 := ⟨⟨wd_99, (show Cond.initialized "KeyedTree$Trial" ∈ gtb from wd_81), (gt_at 410 (by decide +kernel) (by decide +kernel)), ⟨by decide +kernel, by decide +kernel, by decide +kernel⟩, by decide⟩, wd_100, wd_101⟩
theorem koX7_65 : SOK RX7 65 yX7_isSeed cX7_isSeed 1 (some .boolean) 1 := ⟨⟨wd_103, (show Cond.initialized "KeyedTree" ∈ gtb from wd_4), (gt_at 246 (by decide +kernel) (by decide +kernel)), ⟨by decide +kernel, by decide +kernel, by decide +kernel⟩, by decide⟩, wd_104⟩
theorem koX7_73 : SOK RX7 73 yX7_isSet cX7_isSet 1 (some .boolean) 1 := ⟨⟨wd_105, (show Cond.initialized "KeyedTree" ∈ gtb from wd_4), (gt_at 253 (by decide +kernel) (by decide +kernel)), ⟨by decide +kernel, by decide +kernel, by decide +kernel⟩, by decide⟩, wd_5⟩
theorem koX7_76 : SOK RX7 76 yX7_isKey cX7_isKey 1 (some .boolean) 1 := ⟨⟨wd_106, (show Cond.initialized "KeyedTree" ∈ gtb from wd_4), (gt_at 256 (by decide +kernel) (by decide +kernel)), ⟨by decide +kernel, by decide +kernel, by decide +kernel⟩, by decide⟩, wd_107⟩
theorem koX7_87 : SOK RX7 87 yX7_count cX7_count 2 (some .int) 1 := ⟨⟨wd_109, (show Cond.initialized "KeyedTree" ∈ gtb from wd_4), (gt_at 265 (by decide +kernel) (by decide +kernel)), ⟨by decide +kernel, by decide +kernel, by decide +kernel⟩, by decide⟩, wd_69⟩
theorem koX7_83 : SOK RX7 83 yX7_isIn cX7_isIn 3 (some .boolean) 2 := ⟨⟨wd_110, (show Cond.initialized "KeyedTree" ∈ gtb from wd_4), (gt_at 259 (by decide +kernel) (by decide +kernel)), ⟨by decide +kernel, by decide +kernel, by decide +kernel⟩, by decide⟩, wd_64⟩
theorem koX7_97 : VOK RX7 97 yX2_write cX2_write 2 (some .boolean) 1 := ⟨⟨wd_111, (show Cond.initialized "KeyedTree$Pad" ∈ gtb from wd_6), (gt_at 280 (by decide +kernel) (by decide +kernel)), ⟨by decide +kernel, by decide +kernel, by decide +kernel⟩, by decide⟩, wd_112, wd_113⟩
theorem koX7_102 : VOK RX7 102 yX2_clear cX2_clear 1 none 0 := ⟨⟨wd_114, (show Cond.initialized "KeyedTree$Pad" ∈ gtb from wd_6), (gt_at 288 (by decide +kernel) (by decide +kernel)), ⟨by decide +kernel, by decide +kernel, by decide +kernel⟩, by decide⟩, wd_115, wd_116⟩
theorem koX7_105 : VOK RX7 105 yX2_firstFault cX2_firstFault 3 (some .int) 0 := ⟨⟨wd_117, (show Cond.initialized "KeyedTree$Pad" ∈ gtb from wd_6), (gt_at 296 (by decide +kernel) (by decide +kernel)), ⟨by decide +kernel, by decide +kernel, by decide +kernel⟩, by decide⟩, wd_118, wd_119⟩
theorem koX7_153 : VOK RX7 153 yX5_play cX5_play 5 none 2 := ⟨⟨wd_120, (show Cond.initialized "KeyedTree$Trial" ∈ gtb from wd_81), (gt_at 324 (by decide +kernel) (by decide +kernel)), ⟨by decide +kernel, by decide +kernel, by decide +kernel⟩, by decide⟩, wd_121, wd_122⟩
theorem koX7_109 : VOK RX7 109 yX7_tryActs cX7_tryActs 1 (some .int) 0 := ⟨⟨wd_123, (show Cond.initialized "KeyedTree" ∈ gtb from wd_4), (gt_at 320 (by decide +kernel) (by decide +kernel)), ⟨by decide +kernel, by decide +kernel, by decide +kernel⟩, by decide⟩, wd_124, wd_125⟩
theorem koX7_124 : VOK RX7 124 yX4_grow cX4_grow 6 none 2 := ⟨⟨wd_126, (show Cond.initialized "KeyedTree$Tree" ∈ gtb from wd_47), (gt_at 376 (by decide +kernel) (by decide +kernel)), ⟨by decide +kernel, by decide +kernel, by decide +kernel⟩, by decide⟩, wd_79, wd_80⟩
theorem koX7_133 : VOK RX7 133 yX4_sizeBelow cX4_sizeBelow 2 (some .int) 1 := ⟨⟨wd_127, (show Cond.initialized "KeyedTree$Tree" ∈ gtb from wd_47), (gt_at 423 (by decide +kernel) (by decide +kernel)), ⟨by decide +kernel, by decide +kernel, by decide +kernel⟩, by decide⟩, wd_128, wd_129⟩
theorem koX7_137 : VOK RX7 137 yX4_digestBelow cX4_digestBelow 2 (some .int) 1 := ⟨⟨wd_130, (show Cond.initialized "KeyedTree$Tree" ∈ gtb from wd_47), (gt_at 404 (by decide +kernel) (by decide +kernel)), ⟨by decide +kernel, by decide +kernel, by decide +kernel⟩, by decide⟩, wd_58, wd_59⟩
theorem koX7_140 : VOK RX7 140 yX4_heightBelow cX4_heightBelow 2 (some .int) 1 := ⟨⟨wd_131, (show Cond.initialized "KeyedTree$Tree" ∈ gtb from wd_47), (gt_at 397 (by decide +kernel) (by decide +kernel)), ⟨by decide +kernel, by decide +kernel, by decide +kernel⟩, by decide⟩, wd_52, wd_53⟩
theorem koX7_149 : VOK RX7 149 yX6_copy cX6_copy 2 none 1 := ⟨⟨wd_132, (show Cond.initialized "KeyedTree$World" ∈ gtb from wd_71), (gt_at 328 (by decide +kernel) (by decide +kernel)), ⟨by decide +kernel, by decide +kernel, by decide +kernel⟩, by decide⟩, wd_85, wd_86⟩
theorem koX7_167 : VOK RX7 167 yX4_depth cX4_depth 4 (some .int) 1 := ⟨⟨wd_133, (show Cond.initialized "KeyedTree$Tree" ∈ gtb from wd_47), (gt_at 443 (by decide +kernel) (by decide +kernel)), ⟨by decide +kernel, by decide +kernel, by decide +kernel⟩, by decide⟩, wd_134, wd_135⟩
theorem koX7_174 : SOK RX7 174 yX7_less cX7_less 1 (some .long) 1 := ⟨⟨wd_136, (show Cond.initialized "KeyedTree" ∈ gtb from wd_4), (gt_at 368 (by decide +kernel) (by decide +kernel)), ⟨by decide +kernel, by decide +kernel, by decide +kernel⟩, by decide⟩, wd_77⟩
theorem koX7_177 : SOK RX7 177 yX7_pick cX7_pick 5 (some .int) 2 := ⟨⟨wd_137, (show Cond.initialized "KeyedTree" ∈ gtb from wd_4), (gt_at 456 (by decide +kernel) (by decide +kernel)), ⟨by decide +kernel, by decide +kernel, by decide +kernel⟩, by decide⟩, wd_138⟩
theorem koX7_189 : SOK RX7 189 yX7_ranksAbove cX7_ranksAbove 5 (some .boolean) 3 := ⟨⟨wd_139, (show Cond.initialized "KeyedTree" ∈ gtb from wd_4), (gt_at 466 (by decide +kernel) (by decide +kernel)), ⟨by decide +kernel, by decide +kernel, by decide +kernel⟩, by decide⟩, wd_36⟩
theorem koX7_181 : SOK RX7 181 yX7_looks cX7_looks 15 (some .int) 6 := ⟨⟨wd_140, (show Cond.initialized "KeyedTree" ∈ gtb from wd_4), (gt_at 463 (by decide +kernel) (by decide +kernel)), ⟨by decide +kernel, by decide +kernel, by decide +kernel⟩, by decide⟩, wd_141⟩
theorem koX7_185 : VOK RX7 185 yX7_shared cX7_shared 7 (some .int) 2 := ⟨⟨wd_142, (show Cond.initialized "KeyedTree" ∈ gtb from wd_4), (gt_at 470 (by decide +kernel) (by decide +kernel)), ⟨by decide +kernel, by decide +kernel, by decide +kernel⟩, by decide⟩, wd_143, wd_144⟩
theorem koX7_196 : VOK RX7 196 yX3_add cX3_add 4 (some .boolean) 2 := ⟨⟨wd_145, (show Cond.initialized "KeyedTree$Sights" ∈ gtb from wd_26), (gt_at 482 (by decide +kernel) (by decide +kernel)), ⟨by decide +kernel, by decide +kernel, by decide +kernel⟩, by decide⟩, wd_146, wd_147⟩
theorem koX7_201 : VOK RX7 201 yX3_clear cX3_clear 1 none 0 := ⟨⟨wd_148, (show Cond.initialized "KeyedTree$Sights" ∈ gtb from wd_26), (gt_at 491 (by decide +kernel) (by decide +kernel)), ⟨by decide +kernel, by decide +kernel, by decide +kernel⟩, by decide⟩, wd_149, wd_150⟩
theorem koX7_205 : VOK RX7 205 yX3_pickSeed cX3_pickSeed 5 (some .int) 1 := ⟨⟨wd_151, (show Cond.initialized "KeyedTree$Sights" ∈ gtb from wd_26), (gt_at 504 (by decide +kernel) (by decide +kernel)), ⟨by decide +kernel, by decide +kernel, by decide +kernel⟩, by decide⟩, wd_152, wd_153⟩
theorem koX7_202 : VOK RX7 202 yX3_countSeeds cX3_countSeeds 3 (some .int) 0 := ⟨⟨wd_154, (show Cond.initialized "KeyedTree$Sights" ∈ gtb from wd_26), (gt_at 499 (by decide +kernel) (by decide +kernel)), ⟨by decide +kernel, by decide +kernel, by decide +kernel⟩, by decide⟩, wd_155, wd_156⟩
theorem koX7_221 : SOK RX7 221 yX7_greatestDivisor cX7_greatestDivisor 7 (some .long) 2 := ⟨⟨wd_163, (show Cond.initialized "KeyedTree" ∈ gtb from wd_4), (gt_at 529 (by decide +kernel) (by decide +kernel)), ⟨by decide +kernel, by decide +kernel, by decide +kernel⟩, by decide⟩, wd_164⟩
theorem koX7_229 : VOK RX7 229 yX0_draw cX0_draw 3 none 1 := ⟨⟨wd_168, (show Cond.initialized "KeyedTree$Act" ∈ gtb from wd_0), (gt_at 541 (by decide +kernel) (by decide +kernel)), ⟨by decide +kernel, by decide +kernel, by decide +kernel⟩, by decide⟩, wd_169, wd_170⟩
theorem koX7_235 : VOK RX7 235 yX6_whyNot cX6_whyNot 2 (some .int) 1 := ⟨⟨wd_171, (show Cond.initialized "KeyedTree$World" ∈ gtb from wd_71), (gt_at 351 (by decide +kernel) (by decide +kernel)), ⟨by decide +kernel, by decide +kernel, by decide +kernel⟩, by decide⟩, wd_91, wd_92⟩
theorem koX7_238 : VOK RX7 238 yX6_play cX6_play 6 none 1 := ⟨⟨wd_172, (show Cond.initialized "KeyedTree$World" ∈ gtb from wd_71), (gt_at 363 (by decide +kernel) (by decide +kernel)), ⟨by decide +kernel, by decide +kernel, by decide +kernel⟩, by decide⟩, wd_94, wd_95⟩
theorem koX7_241 : VOK RX7 241 yX7_digest cX7_digest 4 (some .int) 2 := ⟨⟨wd_173, (show Cond.initialized "KeyedTree" ∈ gtb from wd_4), (gt_at 548 (by decide +kernel) (by decide +kernel)), ⟨by decide +kernel, by decide +kernel, by decide +kernel⟩, by decide⟩, wd_174, wd_175⟩
theorem koX7_244 : VOK RX7 244 yX6_countAll cX6_countAll 3 (some .int) 0 := ⟨⟨wd_176, (show Cond.initialized "KeyedTree$World" ∈ gtb from wd_71), (gt_at 552 (by decide +kernel) (by decide +kernel)), ⟨by decide +kernel, by decide +kernel, by decide +kernel⟩, by decide⟩, wd_177, wd_178⟩
theorem koX7_255 : VOK RX7 255 yX3_copy cX3_copy 2 none 1 := ⟨⟨wd_179, (show Cond.initialized "KeyedTree$Sights" ∈ gtb from wd_26), (gt_at 560 (by decide +kernel) (by decide +kernel)), ⟨by decide +kernel, by decide +kernel, by decide +kernel⟩, by decide⟩, wd_180, wd_181⟩
theorem koX7_258 : VOK RX7 258 yX7_toldOfSets cX7_toldOfSets 4 (some .int) 1 := ⟨⟨wd_182, (show Cond.initialized "KeyedTree" ∈ gtb from wd_4), (gt_at 573 (by decide +kernel) (by decide +kernel)), ⟨by decide +kernel, by decide +kernel, by decide +kernel⟩, by decide⟩, wd_183, wd_184⟩
theorem koX8_68 : SOK RX8 68 yX8_in cX8_in 6 (some .boolean) 3 := ⟨⟨wd_187, (show Cond.initialized "KeyedTreeModel" ∈ gtb from wd_186), (gt_at 679 (by decide +kernel) (by decide +kernel)), ⟨by decide +kernel, by decide +kernel, by decide +kernel⟩, by decide⟩, wd_188⟩
theorem koX8_74 : SOK RX8 74 yX8_priorityBy cX8_priorityBy 3 (some .int) 2 := ⟨⟨wd_190, (show Cond.initialized "KeyedTreeModel" ∈ gtb from wd_186), (gt_at 818 (by decide +kernel) (by decide +kernel)), ⟨by decide +kernel, by decide +kernel, by decide +kernel⟩, by decide⟩, wd_191⟩
theorem koX8_82 : SOK RX8 82 yX8_ranksBy cX8_ranksBy 5 (some .boolean) 3 := ⟨⟨wd_192, (show Cond.initialized "KeyedTreeModel" ∈ gtb from wd_186), (gt_at 815 (by decide +kernel) (by decide +kernel)), ⟨by decide +kernel, by decide +kernel, by decide +kernel⟩, by decide⟩, wd_193⟩
theorem koX8_88 : SOK RX8 88 yX8_isSet cX8_isSet 1 (some .boolean) 1 := ⟨⟨wd_195, (show Cond.initialized "KeyedTreeModel" ∈ gtb from wd_186), (gt_at 686 (by decide +kernel) (by decide +kernel)), ⟨by decide +kernel, by decide +kernel, by decide +kernel⟩, by decide⟩, wd_196⟩
theorem koX8_92 : SOK RX8 92 yX8_isKey cX8_isKey 1 (some .boolean) 1 := ⟨⟨wd_197, (show Cond.initialized "KeyedTreeModel" ∈ gtb from wd_186), (gt_at 690 (by decide +kernel) (by decide +kernel)), ⟨by decide +kernel, by decide +kernel, by decide +kernel⟩, by decide⟩, wd_198⟩
theorem koX8_99 : VOK RX8 99 yX8_many cX8_many 4 (some .int) 1 := ⟨⟨wd_199, (show Cond.initialized "KeyedTreeModel" ∈ gtb from wd_186), (gt_at 699 (by decide +kernel) (by decide +kernel)), ⟨by decide +kernel, by decide +kernel, by decide +kernel⟩, by decide⟩, wd_200, wd_201⟩
theorem koX8_95 : VOK RX8 95 yX8_has cX8_has 3 (some .boolean) 2 := ⟨⟨wd_202, (show Cond.initialized "KeyedTreeModel" ∈ gtb from wd_186), (gt_at 695 (by decide +kernel) (by decide +kernel)), ⟨by decide +kernel, by decide +kernel, by decide +kernel⟩, by decide⟩, wd_203, wd_204⟩
theorem koX8_117 : VOK RX8 117 yX8_ends cX8_ends 1 (some .int) 0 := ⟨⟨wd_209, (show Cond.initialized "KeyedTreeModel" ∈ gtb from wd_186), (gt_at 727 (by decide +kernel) (by decide +kernel)), ⟨by decide +kernel, by decide +kernel, by decide +kernel⟩, by decide⟩, wd_210, wd_211⟩
theorem koX8_121 : VOK RX8 121 yX8_deed cX8_deed 3 (some .int) 2 := ⟨⟨wd_212, (show Cond.initialized "KeyedTreeModel" ∈ gtb from wd_186), (gt_at 735 (by decide +kernel) (by decide +kernel)), ⟨by decide +kernel, by decide +kernel, by decide +kernel⟩, by decide⟩, wd_213, wd_214⟩
theorem koX8_139 : VOK RX8 139 yX8_figure cX8_figure 4 (some .int) 2 := ⟨⟨wd_218, (show Cond.initialized "KeyedTreeModel" ∈ gtb from wd_186), (gt_at 743 (by decide +kernel) (by decide +kernel)), ⟨by decide +kernel, by decide +kernel, by decide +kernel⟩, by decide⟩, wd_219, wd_220⟩
theorem koX8_136 : VOK RX8 136 yX8_another cX8_another 2 (some .int) 1 := ⟨⟨wd_221, (show Cond.initialized "KeyedTreeModel" ∈ gtb from wd_186), (gt_at 739 (by decide +kernel) (by decide +kernel)), ⟨by decide +kernel, by decide +kernel, by decide +kernel⟩, by decide⟩, wd_222, wd_223⟩
theorem koX8_133 : VOK RX8 133 yX8_begun cX8_begun 2 (some .int) 1 := ⟨⟨wd_224, (show Cond.initialized "KeyedTreeModel" ∈ gtb from wd_186), (gt_at 731 (by decide +kernel) (by decide +kernel)), ⟨by decide +kernel, by decide +kernel, by decide +kernel⟩, by decide⟩, wd_225, wd_226⟩
theorem koX8_130 : VOK RX8 130 yX8_begin cX8_begin 2 (some .int) 1 := ⟨⟨wd_227, (show Cond.initialized "KeyedTreeModel" ∈ gtb from wd_186), (gt_at 721 (by decide +kernel) (by decide +kernel)), ⟨by decide +kernel, by decide +kernel, by decide +kernel⟩, by decide⟩, wd_228, wd_229⟩
theorem koX8_142 : VOK RX8 142 yX8_readOn cX8_readOn 3 (some .int) 2 := ⟨⟨wd_230, (show Cond.initialized "KeyedTreeModel" ∈ gtb from wd_186), (gt_at 717 (by decide +kernel) (by decide +kernel)), ⟨by decide +kernel, by decide +kernel, by decide +kernel⟩, by decide⟩, wd_231, wd_232⟩
theorem koX8_148 : VOK RX8 148 yX8_isBeyond cX8_isBeyond 6 (some .boolean) 2 := ⟨⟨wd_233, (show Cond.initialized "KeyedTreeModel" ∈ gtb from wd_186), (gt_at 784 (by decide +kernel) (by decide +kernel)), ⟨by decide +kernel, by decide +kernel, by decide +kernel⟩, by decide⟩, wd_234, wd_235⟩
theorem koX8_145 : VOK RX8 145 yX8_ofBoth cX8_ofBoth 5 (some .int) 2 := ⟨⟨wd_236, (show Cond.initialized "KeyedTreeModel" ∈ gtb from wd_186), (gt_at 780 (by decide +kernel) (by decide +kernel)), ⟨by decide +kernel, by decide +kernel, by decide +kernel⟩, by decide⟩, wd_237, wd_238⟩
theorem koX8_155 : VOK RX8 155 yX8_whyNoJoin cX8_whyNoJoin 3 (some .int) 2 := ⟨⟨wd_239, (show Cond.initialized "KeyedTreeModel" ∈ gtb from wd_186), (gt_at 776 (by decide +kernel) (by decide +kernel)), ⟨by decide +kernel, by decide +kernel, by decide +kernel⟩, by decide⟩, wd_240, wd_241⟩
theorem koX8_151 : VOK RX8 151 yX8_whyNoKey cX8_whyNoKey 4 (some .int) 3 := ⟨⟨wd_242, (show Cond.initialized "KeyedTreeModel" ∈ gtb from wd_186), (gt_at 772 (by decide +kernel) (by decide +kernel)), ⟨by decide +kernel, by decide +kernel, by decide +kernel⟩, by decide⟩, wd_243, wd_244⟩
theorem koX8_158 : VOK RX8 158 yX8_by cX8_by 4 (some .int) 3 := ⟨⟨wd_245, (show Cond.initialized "KeyedTreeModel" ∈ gtb from wd_186), (gt_at 838 (by decide +kernel) (by decide +kernel)), ⟨by decide +kernel, by decide +kernel, by decide +kernel⟩, by decide⟩, wd_246, wd_247⟩
theorem koX8_161 : VOK RX8 161 yX8_part cX8_part 5 none 3 := ⟨⟨wd_248, (show Cond.initialized "KeyedTreeModel" ∈ gtb from wd_186), (gt_at 830 (by decide +kernel) (by decide +kernel)), ⟨by decide +kernel, by decide +kernel, by decide +kernel⟩, by decide⟩, wd_249, wd_250⟩
theorem koX8_165 : VOK RX8 165 yX8_both cX8_both 5 none 3 := ⟨⟨wd_251, (show Cond.initialized "KeyedTreeModel" ∈ gtb from wd_186), (gt_at 834 (by decide +kernel) (by decide +kernel)), ⟨by decide +kernel, by decide +kernel, by decide +kernel⟩, by decide⟩, wd_252, wd_253⟩
theorem koX8_168 : VOK RX8 168 yX8_ranks cX8_ranks 3 (some .boolean) 2 := ⟨⟨wd_254, (show Cond.initialized "KeyedTreeModel" ∈ gtb from wd_186), (gt_at 812 (by decide +kernel) (by decide +kernel)), ⟨by decide +kernel, by decide +kernel, by decide +kernel⟩, by decide⟩, wd_255, wd_256⟩
theorem koX8_171 : VOK RX8 171 yX8_beyond cX8_beyond 5 (some .int) 3 := ⟨⟨wd_257, (show Cond.initialized "KeyedTreeModel" ∈ gtb from wd_186), (gt_at 808 (by decide +kernel) (by decide +kernel)), ⟨by decide +kernel, by decide +kernel, by decide +kernel⟩, by decide⟩, wd_258, wd_259⟩
theorem koX8_174 : VOK RX8 174 yX8_below cX8_below 5 (some .int) 3 := ⟨⟨wd_260, (show Cond.initialized "KeyedTreeModel" ∈ gtb from wd_186), (gt_at 822 (by decide +kernel) (by decide +kernel)), ⟨by decide +kernel, by decide +kernel, by decide +kernel⟩, by decide⟩, wd_261, wd_262⟩
theorem koX8_177 : VOK RX8 177 yX8_rootOf cX8_rootOf 6 (some .int) 3 := ⟨⟨wd_263, (show Cond.initialized "KeyedTreeModel" ∈ gtb from wd_186), (gt_at 873 (by decide +kernel) (by decide +kernel)), ⟨by decide +kernel, by decide +kernel, by decide +kernel⟩, by decide⟩, wd_264, wd_265⟩
theorem koX8_186 : VOK RX8 186 yX8_findOrder cX8_findOrder 4 none 0 := ⟨⟨wd_269, (show Cond.initialized "KeyedTreeModel" ∈ gtb from wd_186), (gt_at 865 (by decide +kernel) (by decide +kernel)), ⟨by decide +kernel, by decide +kernel, by decide +kernel⟩, by decide⟩, wd_270, wd_271⟩
theorem koX8_189 : VOK RX8 189 yX8_findOne cX8_findOne 13 none 4 := ⟨⟨wd_272, (show Cond.initialized "KeyedTreeModel" ∈ gtb from wd_186), (gt_at 869 (by decide +kernel) (by decide +kernel)), ⟨by decide +kernel, by decide +kernel, by decide +kernel⟩, by decide⟩, wd_273, wd_274⟩
theorem koX8_193 : VOK RX8 193 yX8_treeOf cX8_treeOf 7 (some .long) 2 := ⟨⟨wd_275, (show Cond.initialized "KeyedTreeModel" ∈ gtb from wd_186), (gt_at 804 (by decide +kernel) (by decide +kernel)), ⟨by decide +kernel, by decide +kernel, by decide +kernel⟩, by decide⟩, wd_276, wd_277⟩
theorem koX8_197 : VOK RX8 197 yX8_areAlike cX8_areAlike 5 (some .boolean) 2 := ⟨⟨wd_278, (show Cond.initialized "KeyedTreeModel" ∈ gtb from wd_186), (gt_at 796 (by decide +kernel) (by decide +kernel)), ⟨by decide +kernel, by decide +kernel, by decide +kernel⟩, by decide⟩, wd_279, wd_280⟩
theorem koX8_200 : VOK RX8 200 yX8_alikeOnes cX8_alikeOnes 4 (some .int) 0 := ⟨⟨wd_281, (show Cond.initialized "KeyedTreeModel" ∈ gtb from wd_186), (gt_at 792 (by decide +kernel) (by decide +kernel)), ⟨by decide +kernel, by decide +kernel, by decide +kernel⟩, by decide⟩, wd_282, wd_283⟩
theorem koX8_207 : VOK RX8 207 yX8_findTrees cX8_findTrees 2 none 0 := ⟨⟨wd_284, (show Cond.initialized "KeyedTreeModel" ∈ gtb from wd_186), (gt_at 800 (by decide +kernel) (by decide +kernel)), ⟨by decide +kernel, by decide +kernel, by decide +kernel⟩, by decide⟩, wd_285, wd_286⟩
theorem koX8_210 : VOK RX8 210 yX8_happen cX8_happen 5 none 4 := ⟨⟨wd_287, (show Cond.initialized "KeyedTreeModel" ∈ gtb from wd_186), (gt_at 826 (by decide +kernel) (by decide +kernel)), ⟨by decide +kernel, by decide +kernel, by decide +kernel⟩, by decide⟩, wd_288, wd_289⟩
theorem koX8_216 : VOK RX8 216 yX8_workNow cX8_workNow 3 (some .int) 0 := ⟨⟨wd_290, (show Cond.initialized "KeyedTreeModel" ∈ gtb from wd_186), (gt_at 842 (by decide +kernel) (by decide +kernel)), ⟨by decide +kernel, by decide +kernel, by decide +kernel⟩, by decide⟩, wd_291, wd_292⟩
theorem koX8_222 : SOK RX8 222 yX8_leastOf cX8_leastOf 2 (some .int) 1 := ⟨⟨wd_293, (show Cond.initialized "KeyedTreeModel" ∈ gtb from wd_186), (gt_at 845 (by decide +kernel) (by decide +kernel)), ⟨by decide +kernel, by decide +kernel, by decide +kernel⟩, by decide⟩, wd_294⟩
theorem koX8_234 : VOK RX8 234 yX8_whyNot cX8_whyNot 5 (some .int) 4 := ⟨⟨wd_295, (show Cond.initialized "KeyedTreeModel" ∈ gtb from wd_186), (gt_at 768 (by decide +kernel) (by decide +kernel)), ⟨by decide +kernel, by decide +kernel, by decide +kernel⟩, by decide⟩, wd_296, wd_297⟩
theorem koX8_238 : VOK RX8 238 yX8_goOne cX8_goOne 4 none 1 := ⟨⟨wd_298, (show Cond.initialized "KeyedTreeModel" ∈ gtb from wd_186), (gt_at 788 (by decide +kernel) (by decide +kernel)), ⟨by decide +kernel, by decide +kernel, by decide +kernel⟩, by decide⟩, wd_299, wd_300⟩
theorem koX8_242 : VOK RX8 242 yX8_keepNow cX8_keepNow 2 none 0 := ⟨⟨wd_301, (show Cond.initialized "KeyedTreeModel" ∈ gtb from wd_186), (gt_at 759 (by decide +kernel) (by decide +kernel)), ⟨by decide +kernel, by decide +kernel, by decide +kernel⟩, by decide⟩, wd_302, wd_303⟩
theorem koX8_245 : VOK RX8 245 yX8_fault cX8_fault 3 (some .int) 0 := ⟨⟨wd_304, (show Cond.initialized "KeyedTreeModel" ∈ gtb from wd_186), (gt_at 713 (by decide +kernel) (by decide +kernel)), ⟨by decide +kernel, by decide +kernel, by decide +kernel⟩, by decide⟩, wd_305, wd_306⟩
theorem koX8_248 : VOK RX8 248 yX8_goActs cX8_goActs 3 none 0 := ⟨⟨wd_307, (show Cond.initialized "KeyedTreeModel" ∈ gtb from wd_186), (gt_at 764 (by decide +kernel) (by decide +kernel)), ⟨by decide +kernel, by decide +kernel, by decide +kernel⟩, by decide⟩, wd_308, wd_309⟩
theorem koX8_253 : VOK RX8 253 yX8_refusal cX8_refusal 2 (some .int) 1 := ⟨⟨wd_311, (show Cond.initialized "KeyedTreeModel" ∈ gtb from wd_186), (gt_at 755 (by decide +kernel) (by decide +kernel)), ⟨by decide +kernel, by decide +kernel, by decide +kernel⟩, by decide⟩, wd_312, wd_313⟩
theorem koX8_257 : VOK RX8 257 yX8_back cX8_back 3 (some .int) 1 := ⟨⟨wd_314, (show Cond.initialized "KeyedTreeModel" ∈ gtb from wd_186), (gt_at 849 (by decide +kernel) (by decide +kernel)), ⟨by decide +kernel, by decide +kernel, by decide +kernel⟩, by decide⟩, wd_315, wd_316⟩
theorem koX8_260 : VOK RX8 260 yX8_digestOf cX8_digestOf 6 (some .int) 3 := ⟨⟨wd_317, (show Cond.initialized "KeyedTreeModel" ∈ gtb from wd_186), (gt_at 861 (by decide +kernel) (by decide +kernel)), ⟨by decide +kernel, by decide +kernel, by decide +kernel⟩, by decide⟩, wd_318, wd_319⟩
theorem koX8_263 : VOK RX8 263 yX8_ofSet cX8_ofSet 5 (some .int) 2 := ⟨⟨wd_320, (show Cond.initialized "KeyedTreeModel" ∈ gtb from wd_186), (gt_at 857 (by decide +kernel) (by decide +kernel)), ⟨by decide +kernel, by decide +kernel, by decide +kernel⟩, by decide⟩, wd_321, wd_322⟩
theorem koX8_266 : VOK RX8 266 yX8_aboveOf cX8_aboveOf 5 (some .int) 2 := ⟨⟨wd_323, (show Cond.initialized "KeyedTreeModel" ∈ gtb from wd_186), (gt_at 893 (by decide +kernel) (by decide +kernel)), ⟨by decide +kernel, by decide +kernel, by decide +kernel⟩, by decide⟩, wd_324, wd_325⟩
theorem koX8_271 : SOK RX8 271 yX8_ones cX8_ones 5 (some .int) 1 := ⟨⟨wd_327, (show Cond.initialized "KeyedTreeModel" ∈ gtb from wd_186), (gt_at 896 (by decide +kernel) (by decide +kernel)), ⟨by decide +kernel, by decide +kernel, by decide +kernel⟩, by decide⟩, wd_328⟩
theorem koX8_275 : VOK RX8 275 yX8_digestAt cX8_digestAt 3 (some .int) 2 := ⟨⟨wd_329, (show Cond.initialized "KeyedTreeModel" ∈ gtb from wd_186), (gt_at 900 (by decide +kernel) (by decide +kernel)), ⟨by decide +kernel, by decide +kernel, by decide +kernel⟩, by decide⟩, wd_330, wd_331⟩
theorem koX8_278 : VOK RX8 278 yX8_depthOf cX8_depthOf 5 (some .int) 2 := ⟨⟨wd_332, (show Cond.initialized "KeyedTreeModel" ∈ gtb from wd_186), (gt_at 904 (by decide +kernel) (by decide +kernel)), ⟨by decide +kernel, by decide +kernel, by decide +kernel⟩, by decide⟩, wd_333, wd_334⟩
theorem koX8_281 : VOK RX8 281 yX8_partsAt cX8_partsAt 7 (some .int) 4 := ⟨⟨wd_335, (show Cond.initialized "KeyedTreeModel" ∈ gtb from wd_186), (gt_at 928 (by decide +kernel) (by decide +kernel)), ⟨by decide +kernel, by decide +kernel, by decide +kernel⟩, by decide⟩, wd_336, wd_337⟩
theorem koX8_290 : VOK RX8 290 yX8_shared cX8_shared 5 (some .int) 2 := ⟨⟨wd_338, (show Cond.initialized "KeyedTreeModel" ∈ gtb from wd_186), (gt_at 932 (by decide +kernel) (by decide +kernel)), ⟨by decide +kernel, by decide +kernel, by decide +kernel⟩, by decide⟩, wd_339, wd_340⟩
theorem koX8_287 : VOK RX8 287 yX8_looks cX8_looks 8 (some .int) 2 := ⟨⟨wd_341, (show Cond.initialized "KeyedTreeModel" ∈ gtb from wd_186), (gt_at 924 (by decide +kernel) (by decide +kernel)), ⟨by decide +kernel, by decide +kernel, by decide +kernel⟩, by decide⟩, wd_342, wd_343⟩
theorem koX8_284 : VOK RX8 284 yX8_apartMany cX8_apartMany 5 (some .int) 2 := ⟨⟨wd_344, (show Cond.initialized "KeyedTreeModel" ∈ gtb from wd_186), (gt_at 920 (by decide +kernel) (by decide +kernel)), ⟨by decide +kernel, by decide +kernel, by decide +kernel⟩, by decide⟩, wd_345, wd_346⟩
theorem koX8_296 : VOK RX8 296 yX8_isFit cX8_isFit 4 (some .boolean) 1 := ⟨⟨wd_347, (show Cond.initialized "KeyedTreeModel" ∈ gtb from wd_186), (gt_at 952 (by decide +kernel) (by decide +kernel)), ⟨by decide +kernel, by decide +kernel, by decide +kernel⟩, by decide⟩, wd_348, wd_349⟩
theorem koX8_311 : SOK RX8 311 yX8_divisor cX8_divisor 10 (some .long) 2 := ⟨⟨wd_356, (show Cond.initialized "KeyedTreeModel" ∈ gtb from wd_186), (gt_at 973 (by decide +kernel) (by decide +kernel)), ⟨by decide +kernel, by decide +kernel, by decide +kernel⟩, by decide⟩, wd_357⟩
theorem koX8_315 : SOK RX8 315 yX8_actBy cX8_actBy 2 (some .int) 2 := ⟨⟨wd_358, (show Cond.initialized "KeyedTreeModel" ∈ gtb from wd_186), (gt_at 988 (by decide +kernel) (by decide +kernel)), ⟨by decide +kernel, by decide +kernel, by decide +kernel⟩, by decide⟩, wd_359⟩
theorem koX8_326 : VOK RX8 326 yX8_drawn cX8_drawn 7 none 2 := ⟨⟨wd_364, (show Cond.initialized "KeyedTreeModel" ∈ gtb from wd_186), (gt_at 985 (by decide +kernel) (by decide +kernel)), ⟨by decide +kernel, by decide +kernel, by decide +kernel⟩, by decide⟩, wd_365, wd_366⟩
theorem koX8_336 : VOK RX8 336 yX8_pass cX8_pass 3 (some .int) 1 := ⟨⟨wd_367, (show Cond.initialized "KeyedTreeModel" ∈ gtb from wd_186), (gt_at 1000 (by decide +kernel) (by decide +kernel)), ⟨by decide +kernel, by decide +kernel, by decide +kernel⟩, by decide⟩, wd_368, wd_369⟩
theorem koX8_339 : VOK RX8 339 yX8_passRow cX8_passRow 4 none 2 := ⟨⟨wd_370, (show Cond.initialized "KeyedTreeModel" ∈ gtb from wd_186), (gt_at 1004 (by decide +kernel) (by decide +kernel)), ⟨by decide +kernel, by decide +kernel, by decide +kernel⟩, by decide⟩, wd_371, wd_372⟩
theorem koX8_343 : VOK RX8 343 yX8_passAll cX8_passAll 1 none 0 := ⟨⟨wd_373, (show Cond.initialized "KeyedTreeModel" ∈ gtb from wd_186), (gt_at 996 (by decide +kernel) (by decide +kernel)), ⟨by decide +kernel, by decide +kernel, by decide +kernel⟩, by decide⟩, wd_374, wd_375⟩
