set_option maxHeartbeats 4000000 in
set_option maxRecDepth 100000 in
theorem r_X7_restore {l : Launch} {E : EV} {a : Nat → Nat} {o : Nat} {c_now_keys : Nat → Int64} {c_now_seed : Int32} {c_drawn_keys : Nat → Int64} {c_drawn_seed : Int32} {c_pad_signs : Nat → Int32} {c_pad_count c_sights_count : Int32} {c_sights_seeds : Nat → Int64} {c_img0_kept : Int32} {c_img0_world_keys : Nat → Int64} {c_img0_world_seed c_img0_sights_count : Int32} {c_img0_sights_seeds : Nat → Int64} {c_img1_kept : Int32} {c_img1_world_keys : Nat → Int64} {c_img1_world_seed c_img1_sights_count : Int32} {c_img1_sights_seeds : Nat → Int64} {c_trial_act_kind c_trial_act_set c_trial_act_key c_trial_act_other : Int32} {c_trial_tb_left c_trial_tb_right c_trial_tb_parent : Nat → Int32} {c_trial_tb_span : Nat → Int64} {c_trial_tb_root : Int32} {c_trial_tb_digest c_trial_tb_height c_trial_tb_priority : Nat → Int32} {c_trial_tb_pricedBy : Int32} {c_trial_tb_open c_trial_ta_left c_trial_ta_right c_trial_ta_parent : Nat → Int32} {c_trial_ta_span : Nat → Int64} {c_trial_ta_root : Int32} {c_trial_ta_digest c_trial_ta_height c_trial_ta_priority : Nat → Int32} {c_trial_ta_pricedBy : Int32} {c_trial_ta_open : Nat → Int32} {c_trial_after_keys : Nat → Int64} {c_trial_after_seed : Int32} {c_trial_before_keys : Nat → Int64} {c_trial_before_seed c_trial_acts c_trial_whyNot c_trial_work c_trial_alikeAct c_trial_alikePair : Int32} {l1 : Int32} {R : Int32 × (Nat → Int64) × Int32 × Int32 × (Nat → Int64)} (h : f_X7_restore c_now_keys c_now_seed c_sights_count c_sights_seeds c_img0_kept c_img0_world_keys c_img0_world_seed c_img0_sights_count c_img0_sights_seeds c_img1_kept c_img1_world_keys c_img1_world_seed c_img1_sights_count c_img1_sights_seeds l1 = some R) : Ret1 l E yX7_restore cX7_restore 2 (some .int) 2 (wX7 E a o c_now_keys c_now_seed c_drawn_keys c_drawn_seed c_pad_signs c_pad_count c_sights_count c_sights_seeds c_img0_kept c_img0_world_keys c_img0_world_seed c_img0_sights_count c_img0_sights_seeds c_img1_kept c_img1_world_keys c_img1_world_seed c_img1_sights_count c_img1_sights_seeds c_trial_act_kind c_trial_act_set c_trial_act_key c_trial_act_other c_trial_tb_left c_trial_tb_right c_trial_tb_parent c_trial_tb_span c_trial_tb_root c_trial_tb_digest c_trial_tb_height c_trial_tb_priority c_trial_tb_pricedBy c_trial_tb_open c_trial_ta_left c_trial_ta_right c_trial_ta_parent c_trial_ta_span c_trial_ta_root c_trial_ta_digest c_trial_ta_height c_trial_ta_priority c_trial_ta_pricedBy c_trial_ta_open c_trial_after_keys c_trial_after_seed c_trial_before_keys c_trial_before_seed c_trial_acts c_trial_whyNot c_trial_work c_trial_alikeAct c_trial_alikePair) [.ref (a o), .int l1] (some (.int R.1)) (wX7 E a o R.2.1 R.2.2.1 c_drawn_keys c_drawn_seed c_pad_signs c_pad_count R.2.2.2.1 R.2.2.2.2 c_img0_kept c_img0_world_keys c_img0_world_seed c_img0_sights_count c_img0_sights_seeds c_img1_kept c_img1_world_keys c_img1_world_seed c_img1_sights_count c_img1_sights_seeds c_trial_act_kind c_trial_act_set c_trial_act_key c_trial_act_other c_trial_tb_left c_trial_tb_right c_trial_tb_parent c_trial_tb_span c_trial_tb_root c_trial_tb_digest c_trial_tb_height c_trial_tb_priority c_trial_tb_pricedBy c_trial_tb_open c_trial_ta_left c_trial_ta_right c_trial_ta_parent c_trial_ta_span c_trial_ta_root c_trial_ta_digest c_trial_ta_height c_trial_ta_priority c_trial_ta_pricedBy c_trial_ta_open c_trial_after_keys c_trial_after_seed c_trial_before_keys c_trial_before_seed c_trial_acts c_trial_whyNot c_trial_work c_trial_alikeAct c_trial_alikePair) := by
  refine Ret.intro (lv := [(0, .ref (a o)), (1, .int l1)]) (by decide) (Nat.le_of_ble_eq_true rfl) rfl ?_
  intro g hgl G hQ
  subst hgl
  rw [f_X7_restore] at h
  refine w_iload_n (pc2 := 1) G 1 rfl dX7_restore_0 rfl rfl ?_
  refine w_if_lt (tgt := 9) (pc2 := 4) G dX7_restore_1 (by decide) rfl (fun cc => ?_) (fun cc => ?_)
  · replace h := (if_pos cc).symm.trans h
    refine w_bipush (pc2 := 11) G dX7_restore_9 k_bipush_m2 rfl ?_
    cases h
    exact w_iret G hQ rfl ⟨rfl, rfl⟩ dX7_restore_11
  · replace h := (if_neg cc).symm.trans h
    refine w_iload_n (pc2 := 5) G 1 rfl dX7_restore_4 rfl rfl ?_
    refine w_iconst (pc2 := 6) G dX7_restore_5 k_iconst_2 rfl ?_
    refine w_icmp_lt (tgt := 12) (pc2 := 9) G dX7_restore_6 (by decide) rfl (fun cc => ?_) (fun cc => ?_)
    · replace h := (if_pos cc).symm.trans h
      refine w_aload_n (pc2 := 13) G 0 rfl dX7_restore_12 rfl rfl ?_
      refine w_get (pc2 := 16) G foX7_35 0 rfl rfl dX7_restore_13 rfl ?_
      refine w_iload_n (pc2 := 17) G 1 rfl dX7_restore_16 rfl rfl ?_
      by_cases s0 : l1 = (0 : Int32)
      · replace h := (if_pos s0).symm.trans h
        subst s0
        refine w_aaload (pc2 := 18) (v := (a (o + 10))) G 9 rfl (by unfold vp_in; decide) rfl dX7_restore_17 rfl ?_
        refine w_get (pc2 := 21) G foX7_247 10 rfl rfl dX7_restore_18 rfl ?_
        refine w_if_ne (tgt := 27) (pc2 := 24) G dX7_restore_21 (by decide) rfl (fun cc => ?_) (fun cc => ?_)
        · replace h := (if_neg cc).symm.trans h
          refine w_aload_n (pc2 := 28) G 0 rfl dX7_restore_27 rfl rfl ?_
          refine w_get (pc2 := 31) G foX7_10 0 rfl rfl dX7_restore_28 rfl ?_
          refine w_aload_n (pc2 := 32) G 0 rfl dX7_restore_31 rfl rfl ?_
          refine w_get (pc2 := 35) G foX7_35 0 rfl rfl dX7_restore_32 rfl ?_
          refine w_iload_n (pc2 := 36) G 1 rfl dX7_restore_35 rfl rfl ?_
          refine w_aaload (pc2 := 37) (v := (a (o + 10))) G 9 rfl (by unfold vp_in; decide) rfl dX7_restore_36 rfl ?_
          refine w_get (pc2 := 40) G foX7_251 10 rfl rfl dX7_restore_37 rfl ?_
          obtain ⟨x1, H_x1, h⟩ := bs h
          refine w_cV1 (pc2 := 43) (ws2 := (wX7 E a o x1.1 x1.2 c_drawn_keys c_drawn_seed c_pad_signs c_pad_count c_sights_count c_sights_seeds c_img0_kept c_img0_world_keys c_img0_world_seed c_img0_sights_count c_img0_sights_seeds c_img1_kept c_img1_world_keys c_img1_world_seed c_img1_sights_count c_img1_sights_seeds c_trial_act_kind c_trial_act_set c_trial_act_key c_trial_act_other c_trial_tb_left c_trial_tb_right c_trial_tb_parent c_trial_tb_span c_trial_tb_root c_trial_tb_digest c_trial_tb_height c_trial_tb_priority c_trial_tb_pricedBy c_trial_tb_open c_trial_ta_left c_trial_ta_right c_trial_ta_parent c_trial_ta_span c_trial_ta_root c_trial_ta_digest c_trial_ta_height c_trial_ta_priority c_trial_ta_pricedBy c_trial_ta_open c_trial_after_keys c_trial_after_seed c_trial_before_keys c_trial_before_seed c_trial_acts c_trial_whyNot c_trial_work c_trial_alikeAct c_trial_alikePair)) (As := [.ref (a (o + 11))]) (rest := []) G koX7_149 (r_X6_copy (o := (o + 1)) (o1 := (o + 11)) H_x1) (Nat.le_of_ble_eq_true rfl) 6 rfl rfl [1, 2, 11, 12] [0, 3, 4, 5, 6, 7, 8, 9, 10, 13, 14, 15, 16, 17, 18, 19, 20, 21, 22, 23, 24, 25, 26, 27, 28, 29, 30, 31, 32, 33, 34, 35, 36, 37, 38, 39, 40, 41, 42, 43] [0, 40, 41, 1, 2, 3, 4, 5, 6, 7, 8, 42, 43, 9, 10, 11, 12, 13, 14, 15, 16, 17, 18, 19, 20, 21, 22, 23, 24, 25, 26, 27, 28, 29, 30, 31, 32, 33, 34, 35, 36, 37, 38, 39] rfl rfl rfl rfl rfl rfl rfl rfl rfl (Nat.le_of_ble_eq_true rfl) ⟨Nat.zero_le _, Nat.zero_le _⟩ dX7_restore_40 rfl rfl ?_
          refine w_aload_n (pc2 := 44) G 0 rfl dX7_restore_43 rfl rfl ?_
          refine w_get (pc2 := 47) G foX7_29 0 rfl rfl dX7_restore_44 rfl ?_
          refine w_aload_n (pc2 := 48) G 0 rfl dX7_restore_47 rfl rfl ?_
          refine w_get (pc2 := 51) G foX7_35 0 rfl rfl dX7_restore_48 rfl ?_
          refine w_iload_n (pc2 := 52) G 1 rfl dX7_restore_51 rfl rfl ?_
          refine w_aaload (pc2 := 53) (v := (a (o + 10))) G 9 rfl (by unfold vp_in; decide) rfl dX7_restore_52 rfl ?_
          refine w_get (pc2 := 56) G foX7_254 10 rfl rfl dX7_restore_53 rfl ?_
          obtain ⟨x2, H_x2, h⟩ := bs h
          refine w_cV1 (pc2 := 59) (ws2 := (wX7 E a o x1.1 x1.2 c_drawn_keys c_drawn_seed c_pad_signs c_pad_count x2.1 x2.2 c_img0_kept c_img0_world_keys c_img0_world_seed c_img0_sights_count c_img0_sights_seeds c_img1_kept c_img1_world_keys c_img1_world_seed c_img1_sights_count c_img1_sights_seeds c_trial_act_kind c_trial_act_set c_trial_act_key c_trial_act_other c_trial_tb_left c_trial_tb_right c_trial_tb_parent c_trial_tb_span c_trial_tb_root c_trial_tb_digest c_trial_tb_height c_trial_tb_priority c_trial_tb_pricedBy c_trial_tb_open c_trial_ta_left c_trial_ta_right c_trial_ta_parent c_trial_ta_span c_trial_ta_root c_trial_ta_digest c_trial_ta_height c_trial_ta_priority c_trial_ta_pricedBy c_trial_ta_open c_trial_after_keys c_trial_after_seed c_trial_before_keys c_trial_before_seed c_trial_acts c_trial_whyNot c_trial_work c_trial_alikeAct c_trial_alikePair)) (As := [.ref (a (o + 13))]) (rest := []) G koX7_255 (r_X3_copy (o := (o + 7)) (o1 := (o + 13)) H_x2) (Nat.le_of_ble_eq_true rfl) 3 rfl rfl [7, 8, 13, 14] [0, 1, 2, 3, 4, 5, 6, 9, 10, 11, 12, 15, 16, 17, 18, 19, 20, 21, 22, 23, 24, 25, 26, 27, 28, 29, 30, 31, 32, 33, 34, 35, 36, 37, 38, 39, 40, 41, 42, 43] [0, 1, 2, 3, 4, 5, 6, 40, 41, 7, 8, 9, 10, 42, 43, 11, 12, 13, 14, 15, 16, 17, 18, 19, 20, 21, 22, 23, 24, 25, 26, 27, 28, 29, 30, 31, 32, 33, 34, 35, 36, 37, 38, 39] rfl rfl rfl rfl rfl rfl rfl rfl rfl (Nat.le_of_ble_eq_true rfl) ⟨Nat.zero_le _, Nat.zero_le _⟩ dX7_restore_56 rfl rfl ?_
          refine w_iconst (pc2 := 60) G dX7_restore_59 k_iconst_1 rfl ?_
          cases h
          exact w_iret G hQ rfl ⟨rfl, rfl⟩ dX7_restore_60
        · replace h := (if_pos cc).symm.trans h
          refine w_bipush (pc2 := 26) G dX7_restore_24 k_bipush_m3 rfl ?_
          cases h
          exact w_iret G hQ rfl ⟨rfl, rfl⟩ dX7_restore_26
      · replace h := (if_neg s0).symm.trans h
        by_cases s1 : l1 = (1 : Int32)
        · replace h := (if_pos s1).symm.trans h
          subst s1
          refine w_aaload (pc2 := 18) (v := (a (o + 15))) G 9 rfl (by unfold vp_in; decide) rfl dX7_restore_17 rfl ?_
          refine w_get (pc2 := 21) G foX7_247 15 rfl rfl dX7_restore_18 rfl ?_
          refine w_if_ne (tgt := 27) (pc2 := 24) G dX7_restore_21 (by decide) rfl (fun cc => ?_) (fun cc => ?_)
          · replace h := (if_neg cc).symm.trans h
            refine w_aload_n (pc2 := 28) G 0 rfl dX7_restore_27 rfl rfl ?_
            refine w_get (pc2 := 31) G foX7_10 0 rfl rfl dX7_restore_28 rfl ?_
            refine w_aload_n (pc2 := 32) G 0 rfl dX7_restore_31 rfl rfl ?_
            refine w_get (pc2 := 35) G foX7_35 0 rfl rfl dX7_restore_32 rfl ?_
            refine w_iload_n (pc2 := 36) G 1 rfl dX7_restore_35 rfl rfl ?_
            refine w_aaload (pc2 := 37) (v := (a (o + 15))) G 9 rfl (by unfold vp_in; decide) rfl dX7_restore_36 rfl ?_
            refine w_get (pc2 := 40) G foX7_251 15 rfl rfl dX7_restore_37 rfl ?_
            obtain ⟨x3, H_x3, h⟩ := bs h
            refine w_cV1 (pc2 := 43) (ws2 := (wX7 E a o x3.1 x3.2 c_drawn_keys c_drawn_seed c_pad_signs c_pad_count c_sights_count c_sights_seeds c_img0_kept c_img0_world_keys c_img0_world_seed c_img0_sights_count c_img0_sights_seeds c_img1_kept c_img1_world_keys c_img1_world_seed c_img1_sights_count c_img1_sights_seeds c_trial_act_kind c_trial_act_set c_trial_act_key c_trial_act_other c_trial_tb_left c_trial_tb_right c_trial_tb_parent c_trial_tb_span c_trial_tb_root c_trial_tb_digest c_trial_tb_height c_trial_tb_priority c_trial_tb_pricedBy c_trial_tb_open c_trial_ta_left c_trial_ta_right c_trial_ta_parent c_trial_ta_span c_trial_ta_root c_trial_ta_digest c_trial_ta_height c_trial_ta_priority c_trial_ta_pricedBy c_trial_ta_open c_trial_after_keys c_trial_after_seed c_trial_before_keys c_trial_before_seed c_trial_acts c_trial_whyNot c_trial_work c_trial_alikeAct c_trial_alikePair)) (As := [.ref (a (o + 16))]) (rest := []) G koX7_149 (r_X6_copy (o := (o + 1)) (o1 := (o + 16)) H_x3) (Nat.le_of_ble_eq_true rfl) 6 rfl rfl [1, 2, 16, 17] [0, 3, 4, 5, 6, 7, 8, 9, 10, 11, 12, 13, 14, 15, 18, 19, 20, 21, 22, 23, 24, 25, 26, 27, 28, 29, 30, 31, 32, 33, 34, 35, 36, 37, 38, 39, 40, 41, 42, 43] [0, 40, 41, 1, 2, 3, 4, 5, 6, 7, 8, 9, 10, 11, 12, 13, 42, 43, 14, 15, 16, 17, 18, 19, 20, 21, 22, 23, 24, 25, 26, 27, 28, 29, 30, 31, 32, 33, 34, 35, 36, 37, 38, 39] rfl rfl rfl rfl rfl rfl rfl rfl rfl (Nat.le_of_ble_eq_true rfl) ⟨Nat.zero_le _, Nat.zero_le _⟩ dX7_restore_40 rfl rfl ?_
            refine w_aload_n (pc2 := 44) G 0 rfl dX7_restore_43 rfl rfl ?_
            refine w_get (pc2 := 47) G foX7_29 0 rfl rfl dX7_restore_44 rfl ?_
            refine w_aload_n (pc2 := 48) G 0 rfl dX7_restore_47 rfl rfl ?_
            refine w_get (pc2 := 51) G foX7_35 0 rfl rfl dX7_restore_48 rfl ?_
            refine w_iload_n (pc2 := 52) G 1 rfl dX7_restore_51 rfl rfl ?_
            refine w_aaload (pc2 := 53) (v := (a (o + 15))) G 9 rfl (by unfold vp_in; decide) rfl dX7_restore_52 rfl ?_
            refine w_get (pc2 := 56) G foX7_254 15 rfl rfl dX7_restore_53 rfl ?_
            obtain ⟨x4, H_x4, h⟩ := bs h
            refine w_cV1 (pc2 := 59) (ws2 := (wX7 E a o x3.1 x3.2 c_drawn_keys c_drawn_seed c_pad_signs c_pad_count x4.1 x4.2 c_img0_kept c_img0_world_keys c_img0_world_seed c_img0_sights_count c_img0_sights_seeds c_img1_kept c_img1_world_keys c_img1_world_seed c_img1_sights_count c_img1_sights_seeds c_trial_act_kind c_trial_act_set c_trial_act_key c_trial_act_other c_trial_tb_left c_trial_tb_right c_trial_tb_parent c_trial_tb_span c_trial_tb_root c_trial_tb_digest c_trial_tb_height c_trial_tb_priority c_trial_tb_pricedBy c_trial_tb_open c_trial_ta_left c_trial_ta_right c_trial_ta_parent c_trial_ta_span c_trial_ta_root c_trial_ta_digest c_trial_ta_height c_trial_ta_priority c_trial_ta_pricedBy c_trial_ta_open c_trial_after_keys c_trial_after_seed c_trial_before_keys c_trial_before_seed c_trial_acts c_trial_whyNot c_trial_work c_trial_alikeAct c_trial_alikePair)) (As := [.ref (a (o + 18))]) (rest := []) G koX7_255 (r_X3_copy (o := (o + 7)) (o1 := (o + 18)) H_x4) (Nat.le_of_ble_eq_true rfl) 3 rfl rfl [7, 8, 18, 19] [0, 1, 2, 3, 4, 5, 6, 9, 10, 11, 12, 13, 14, 15, 16, 17, 20, 21, 22, 23, 24, 25, 26, 27, 28, 29, 30, 31, 32, 33, 34, 35, 36, 37, 38, 39, 40, 41, 42, 43] [0, 1, 2, 3, 4, 5, 6, 40, 41, 7, 8, 9, 10, 11, 12, 13, 14, 15, 42, 43, 16, 17, 18, 19, 20, 21, 22, 23, 24, 25, 26, 27, 28, 29, 30, 31, 32, 33, 34, 35, 36, 37, 38, 39] rfl rfl rfl rfl rfl rfl rfl rfl rfl (Nat.le_of_ble_eq_true rfl) ⟨Nat.zero_le _, Nat.zero_le _⟩ dX7_restore_56 rfl rfl ?_
            refine w_iconst (pc2 := 60) G dX7_restore_59 k_iconst_1 rfl ?_
            cases h
            exact w_iret G hQ rfl ⟨rfl, rfl⟩ dX7_restore_60
          · replace h := (if_pos cc).symm.trans h
            refine w_bipush (pc2 := 26) G dX7_restore_24 k_bipush_m3 rfl ?_
            cases h
            exact w_iret G hQ rfl ⟨rfl, rfl⟩ dX7_restore_26
        · exact no_some ((if_neg s1).symm.trans h)
    · replace h := (if_neg cc).symm.trans h
      refine w_bipush (pc2 := 11) G dX7_restore_9 k_bipush_m2 rfl ?_
      cases h
      exact w_iret G hQ rfl ⟨rfl, rfl⟩ dX7_restore_11

set_option maxHeartbeats 4000000 in
set_option maxRecDepth 100000 in
theorem r_X7_toldOfSets {l : Launch} {E : EV} {a : Nat → Nat} {o : Nat} {c_now_keys : Nat → Int64} {c_now_seed : Int32} {c_drawn_keys : Nat → Int64} {c_drawn_seed : Int32} {c_pad_signs : Nat → Int32} {c_pad_count c_sights_count : Int32} {c_sights_seeds : Nat → Int64} {c_img0_kept : Int32} {c_img0_world_keys : Nat → Int64} {c_img0_world_seed c_img0_sights_count : Int32} {c_img0_sights_seeds : Nat → Int64} {c_img1_kept : Int32} {c_img1_world_keys : Nat → Int64} {c_img1_world_seed c_img1_sights_count : Int32} {c_img1_sights_seeds : Nat → Int64} {c_trial_act_kind c_trial_act_set c_trial_act_key c_trial_act_other : Int32} {c_trial_tb_left c_trial_tb_right c_trial_tb_parent : Nat → Int32} {c_trial_tb_span : Nat → Int64} {c_trial_tb_root : Int32} {c_trial_tb_digest c_trial_tb_height c_trial_tb_priority : Nat → Int32} {c_trial_tb_pricedBy : Int32} {c_trial_tb_open c_trial_ta_left c_trial_ta_right c_trial_ta_parent : Nat → Int32} {c_trial_ta_span : Nat → Int64} {c_trial_ta_root : Int32} {c_trial_ta_digest c_trial_ta_height c_trial_ta_priority : Nat → Int32} {c_trial_ta_pricedBy : Int32} {c_trial_ta_open : Nat → Int32} {c_trial_after_keys : Nat → Int64} {c_trial_after_seed : Int32} {c_trial_before_keys : Nat → Int64} {c_trial_before_seed c_trial_acts c_trial_whyNot c_trial_work c_trial_alikeAct c_trial_alikePair : Int32} {l1 : Int32} {R : Int32 × (Nat → Int32) × (Nat → Int32) × (Nat → Int32) × (Nat → Int64) × Int32 × (Nat → Int32) × (Nat → Int32) × (Nat → Int32) × Int32 × (Nat → Int32)} (h : f_X7_toldOfSets c_now_keys c_now_seed c_trial_tb_left c_trial_tb_right c_trial_tb_parent c_trial_tb_span c_trial_tb_root c_trial_tb_digest c_trial_tb_height c_trial_tb_priority c_trial_tb_pricedBy c_trial_tb_open l1 = some R) : Ret1 l E yX7_toldOfSets cX7_toldOfSets 4 (some .int) 4 (wX7 E a o c_now_keys c_now_seed c_drawn_keys c_drawn_seed c_pad_signs c_pad_count c_sights_count c_sights_seeds c_img0_kept c_img0_world_keys c_img0_world_seed c_img0_sights_count c_img0_sights_seeds c_img1_kept c_img1_world_keys c_img1_world_seed c_img1_sights_count c_img1_sights_seeds c_trial_act_kind c_trial_act_set c_trial_act_key c_trial_act_other c_trial_tb_left c_trial_tb_right c_trial_tb_parent c_trial_tb_span c_trial_tb_root c_trial_tb_digest c_trial_tb_height c_trial_tb_priority c_trial_tb_pricedBy c_trial_tb_open c_trial_ta_left c_trial_ta_right c_trial_ta_parent c_trial_ta_span c_trial_ta_root c_trial_ta_digest c_trial_ta_height c_trial_ta_priority c_trial_ta_pricedBy c_trial_ta_open c_trial_after_keys c_trial_after_seed c_trial_before_keys c_trial_before_seed c_trial_acts c_trial_whyNot c_trial_work c_trial_alikeAct c_trial_alikePair) [.ref (a o), .int l1] (some (.int R.1)) (wX7 E a o c_now_keys c_now_seed c_drawn_keys c_drawn_seed c_pad_signs c_pad_count c_sights_count c_sights_seeds c_img0_kept c_img0_world_keys c_img0_world_seed c_img0_sights_count c_img0_sights_seeds c_img1_kept c_img1_world_keys c_img1_world_seed c_img1_sights_count c_img1_sights_seeds c_trial_act_kind c_trial_act_set c_trial_act_key c_trial_act_other R.2.1 R.2.2.1 R.2.2.2.1 R.2.2.2.2.1 R.2.2.2.2.2.1 R.2.2.2.2.2.2.1 R.2.2.2.2.2.2.2.1 R.2.2.2.2.2.2.2.2.1 R.2.2.2.2.2.2.2.2.2.1 R.2.2.2.2.2.2.2.2.2.2 c_trial_ta_left c_trial_ta_right c_trial_ta_parent c_trial_ta_span c_trial_ta_root c_trial_ta_digest c_trial_ta_height c_trial_ta_priority c_trial_ta_pricedBy c_trial_ta_open c_trial_after_keys c_trial_after_seed c_trial_before_keys c_trial_before_seed c_trial_acts c_trial_whyNot c_trial_work c_trial_alikeAct c_trial_alikePair) := by
  refine Ret.intro (lv := [(0, .ref (a o)), (1, .int l1)]) (by decide) (Nat.le_of_ble_eq_true rfl) rfl ?_
  intro g hgl G hQ
  subst hgl
  rw [f_X7_toldOfSets] at h
  refine w_iload_n (pc2 := 1) G 1 rfl dX7_toldOfSets_0 rfl rfl ?_
  refine w_bipush (pc2 := 3) G dX7_toldOfSets_1 k_bipush_10 rfl ?_
  refine w_isub (pc2 := 4) G dX7_toldOfSets_3 rfl ?_
  obtain ⟨x1, H_x1, h⟩ := bs h
  refine w_cS0 (pc2 := 7) (As := [.int (l1 - (10 : Int32))]) (rest := []) G koX7_73 (r_X7_isSet H_x1) (Nat.le_of_ble_eq_true rfl) rfl rfl (Nat.le_of_ble_eq_true rfl) ⟨Nat.zero_le _, Nat.zero_le _⟩ dX7_toldOfSets_4 rfl rfl ?_
  refine w_if_eq (tgt := 26) (pc2 := 10) G dX7_toldOfSets_7 (by decide) rfl (fun cc => ?_) (fun cc => ?_)
  · replace h := (if_pos cc).symm.trans h
    refine w_iload_n (pc2 := 27) G 1 rfl dX7_toldOfSets_26 rfl rfl ?_
    refine w_bipush (pc2 := 29) G dX7_toldOfSets_27 k_bipush_20 rfl ?_
    refine w_isub (pc2 := 30) G dX7_toldOfSets_29 rfl ?_
    obtain ⟨x2, H_x2, h⟩ := bs h
    refine w_cS0 (pc2 := 33) (As := [.int (l1 - (20 : Int32))]) (rest := []) G koX7_73 (r_X7_isSet H_x2) (Nat.le_of_ble_eq_true rfl) rfl rfl (Nat.le_of_ble_eq_true rfl) ⟨Nat.zero_le _, Nat.zero_le _⟩ dX7_toldOfSets_30 rfl rfl ?_
    refine w_if_eq (tgt := 60) (pc2 := 36) G dX7_toldOfSets_33 (by decide) rfl (fun cc => ?_) (fun cc => ?_)
    · replace h := (if_pos cc).symm.trans h
      refine w_iload_n (pc2 := 61) G 1 rfl dX7_toldOfSets_60 rfl rfl ?_
      refine w_bipush (pc2 := 63) G dX7_toldOfSets_61 k_bipush_100 rfl ?_
      refine w_idiv (pc2 := 64) G dX7_toldOfSets_63 (by decide) rfl ?_
      refine w_iconst (pc2 := 65) G dX7_toldOfSets_64 k_iconst_1 rfl ?_
      refine w_isub (pc2 := 66) G dX7_toldOfSets_65 rfl ?_
      refine w_istore_n (pc2 := 67) (lv2 := [(2, .int ((l1 / (100 : Int32)) - (1 : Int32))), (0, .ref (a o)), (1, .int l1)]) G dX7_toldOfSets_66 rfl (Nat.le_of_ble_eq_true rfl) rfl rfl ?_
      refine w_iload_n (pc2 := 68) G 2 rfl dX7_toldOfSets_67 rfl rfl ?_
      refine w_bipush (pc2 := 70) G dX7_toldOfSets_68 k_bipush_100 rfl ?_
      refine w_irem (pc2 := 71) G dX7_toldOfSets_70 (by decide) rfl ?_
      refine w_istore_n (pc2 := 72) (lv2 := [(3, .int (l1 - l1 / (100 : Int32) * (100 : Int32))), (2, .int ((l1 / (100 : Int32)) - (1 : Int32))), (0, .ref (a o)), (1, .int l1)]) G dX7_toldOfSets_71 rfl (Nat.le_of_ble_eq_true rfl) rfl rfl ?_
      refine w_iload_n (pc2 := 73) G 1 rfl dX7_toldOfSets_72 rfl rfl ?_
      obtain ⟨x3, H_x3, h⟩ := bs h
      refine w_cS0 (pc2 := 76) (As := [.int ((l1 / (100 : Int32)) - (1 : Int32))]) (rest := []) G koX7_73 (r_X7_isSet H_x3) (Nat.le_of_ble_eq_true rfl) rfl rfl (Nat.le_of_ble_eq_true rfl) ⟨Nat.zero_le _, Nat.zero_le _⟩ dX7_toldOfSets_73 rfl rfl ?_
      refine w_if_eq (tgt := 86) (pc2 := 79) G dX7_toldOfSets_76 (by decide) rfl (fun cc => ?_) (fun cc => ?_)
      · replace h := (if_pos cc).symm.trans h
        refine w_bipush (pc2 := 88) G dX7_toldOfSets_86 k_bipush_m2 rfl ?_
        cases h
        exact w_iret G hQ rfl ⟨rfl, rfl⟩ dX7_toldOfSets_88
      · replace h := (if_neg cc).symm.trans h
        refine w_iload_n (pc2 := 80) G 0 rfl dX7_toldOfSets_79 rfl rfl ?_
        obtain ⟨x4, H_x4, h⟩ := bs h
        refine w_cS0 (pc2 := 83) (As := [.int (l1 - l1 / (100 : Int32) * (100 : Int32))]) (rest := []) G koX7_76 (r_X7_isKey H_x4) (Nat.le_of_ble_eq_true rfl) rfl rfl (Nat.le_of_ble_eq_true rfl) ⟨Nat.zero_le _, Nat.zero_le _⟩ dX7_toldOfSets_80 rfl rfl ?_
        refine w_if_ne (tgt := 89) (pc2 := 86) G dX7_toldOfSets_83 (by decide) rfl (fun cc => ?_) (fun cc => ?_)
        · replace h := (if_neg cc).symm.trans h
          refine w_aload_n (pc2 := 90) G 2 rfl dX7_toldOfSets_89 rfl rfl ?_
          refine w_get (pc2 := 93) G foX7_10 0 rfl rfl dX7_toldOfSets_90 rfl ?_
          refine w_get (pc2 := 96) G foX7_79 1 rfl rfl dX7_toldOfSets_93 rfl ?_
          refine w_iload_n (pc2 := 97) G 1 rfl dX7_toldOfSets_96 rfl rfl ?_
          obtain ⟨v5, H_v5, h⟩ := bs h
          refine w_laldo (pc2 := 98) G 2 rfl H_v5 dX7_toldOfSets_97 rfl ?_
          refine w_iload_n (pc2 := 99) G 0 rfl dX7_toldOfSets_98 rfl rfl ?_
          obtain ⟨x6, H_x6, h⟩ := bs h
          refine w_cS0 (pc2 := 102) (As := [.long v5, .int (l1 - l1 / (100 : Int32) * (100 : Int32))]) (rest := []) G koX7_83 (r_X7_isIn H_x6) (Nat.le_of_ble_eq_true rfl) rfl rfl (Nat.le_of_ble_eq_true rfl) ⟨Nat.zero_le _, Nat.zero_le _⟩ dX7_toldOfSets_99 rfl rfl ?_
          refine w_if_eq (tgt := 109) (pc2 := 105) G dX7_toldOfSets_102 (by decide) rfl (fun cc => ?_) (fun cc => ?_)
          · replace h := (if_pos cc).symm.trans h
            refine w_iconst (pc2 := 110) G dX7_toldOfSets_109 k_iconst_0 rfl ?_
            cases h
            exact w_iret G hQ rfl ⟨rfl, rfl⟩ dX7_toldOfSets_110
          · replace h := (if_neg cc).symm.trans h
            refine w_iconst (pc2 := 106) G dX7_toldOfSets_105 k_iconst_1 rfl ?_
            refine w_goto (tgt := 110) G dX7_toldOfSets_106 (by decide) ?_
            cases h
            exact w_iret G hQ rfl ⟨rfl, rfl⟩ dX7_toldOfSets_110
        · replace h := (if_pos cc).symm.trans h
          refine w_bipush (pc2 := 88) G dX7_toldOfSets_86 k_bipush_m2 rfl ?_
          cases h
          exact w_iret G hQ rfl ⟨rfl, rfl⟩ dX7_toldOfSets_88
    · replace h := (if_neg cc).symm.trans h
      refine w_aload_n (pc2 := 37) G 0 rfl dX7_toldOfSets_36 rfl rfl ?_
      refine w_aload_n (pc2 := 38) G 0 rfl dX7_toldOfSets_37 rfl rfl ?_
      refine w_get (pc2 := 41) G foX7_10 0 rfl rfl dX7_toldOfSets_38 rfl ?_
      refine w_get (pc2 := 44) G foX7_79 1 rfl rfl dX7_toldOfSets_41 rfl ?_
      refine w_iload_n (pc2 := 45) G 1 rfl dX7_toldOfSets_44 rfl rfl ?_
      refine w_bipush (pc2 := 47) G dX7_toldOfSets_45 k_bipush_20 rfl ?_
      refine w_isub (pc2 := 48) G dX7_toldOfSets_47 rfl ?_
      obtain ⟨v7, H_v7, h⟩ := bs h
      refine w_laldo (pc2 := 49) G 2 rfl H_v7 dX7_toldOfSets_48 rfl ?_
      refine w_aload_n (pc2 := 50) G 0 rfl dX7_toldOfSets_49 rfl rfl ?_
      refine w_get (pc2 := 53) G foX7_10 0 rfl rfl dX7_toldOfSets_50 rfl ?_
      refine w_get (pc2 := 56) G foX7_69 1 rfl rfl dX7_toldOfSets_53 rfl ?_
      obtain ⟨x8, H_x8, h⟩ := bs h
      refine w_cV0 (pc2 := 59) (ws2 := (wX7 E a o c_now_keys c_now_seed c_drawn_keys c_drawn_seed c_pad_signs c_pad_count c_sights_count c_sights_seeds c_img0_kept c_img0_world_keys c_img0_world_seed c_img0_sights_count c_img0_sights_seeds c_img1_kept c_img1_world_keys c_img1_world_seed c_img1_sights_count c_img1_sights_seeds c_trial_act_kind c_trial_act_set c_trial_act_key c_trial_act_other x8.2.1 x8.2.2.1 x8.2.2.2.1 x8.2.2.2.2.1 x8.2.2.2.2.2.1 x8.2.2.2.2.2.2.1 x8.2.2.2.2.2.2.2.1 x8.2.2.2.2.2.2.2.2.1 x8.2.2.2.2.2.2.2.2.2.1 x8.2.2.2.2.2.2.2.2.2.2 c_trial_ta_left c_trial_ta_right c_trial_ta_parent c_trial_ta_span c_trial_ta_root c_trial_ta_digest c_trial_ta_height c_trial_ta_priority c_trial_ta_pricedBy c_trial_ta_open c_trial_after_keys c_trial_after_seed c_trial_before_keys c_trial_before_seed c_trial_acts c_trial_whyNot c_trial_work c_trial_alikeAct c_trial_alikePair)) (As := [.long v7, .int c_now_seed]) (rest := []) G koX7_241 (r_X7_digest H_x8) (Nat.le_of_ble_eq_true rfl) 7 rfl rfl rfl rfl (Nat.le_of_ble_eq_true rfl) ⟨Nat.zero_le _, Nat.zero_le _⟩ dX7_toldOfSets_56 rfl rfl ?_
      cases h
      exact w_iret G hQ rfl ⟨rfl, rfl⟩ dX7_toldOfSets_59
  · replace h := (if_neg cc).symm.trans h
    refine w_aload_n (pc2 := 11) G 0 rfl dX7_toldOfSets_10 rfl rfl ?_
    refine w_get (pc2 := 14) G foX7_10 0 rfl rfl dX7_toldOfSets_11 rfl ?_
    refine w_get (pc2 := 17) G foX7_79 1 rfl rfl dX7_toldOfSets_14 rfl ?_
    refine w_iload_n (pc2 := 18) G 1 rfl dX7_toldOfSets_17 rfl rfl ?_
    refine w_bipush (pc2 := 20) G dX7_toldOfSets_18 k_bipush_10 rfl ?_
    refine w_isub (pc2 := 21) G dX7_toldOfSets_20 rfl ?_
    obtain ⟨v9, H_v9, h⟩ := bs h
    refine w_laldo (pc2 := 22) G 2 rfl H_v9 dX7_toldOfSets_21 rfl ?_
    obtain ⟨x10, H_x10, h⟩ := bs h
    refine w_cS0 (pc2 := 25) (As := [.long v9]) (rest := []) G koX7_87 (r_X7_count H_x10) (Nat.le_of_ble_eq_true rfl) rfl rfl (Nat.le_of_ble_eq_true rfl) ⟨Nat.zero_le _, Nat.zero_le _⟩ dX7_toldOfSets_22 rfl rfl ?_
    cases h
    exact w_iret G hQ rfl ⟨rfl, rfl⟩ dX7_toldOfSets_25

set_option maxHeartbeats 4000000 in
set_option maxRecDepth 100000 in
theorem r_X7_told {l : Launch} {E : EV} {a : Nat → Nat} {o : Nat} {c_now_keys : Nat → Int64} {c_now_seed : Int32} {c_drawn_keys : Nat → Int64} {c_drawn_seed : Int32} {c_pad_signs : Nat → Int32} {c_pad_count c_sights_count : Int32} {c_sights_seeds : Nat → Int64} {c_img0_kept : Int32} {c_img0_world_keys : Nat → Int64} {c_img0_world_seed c_img0_sights_count : Int32} {c_img0_sights_seeds : Nat → Int64} {c_img1_kept : Int32} {c_img1_world_keys : Nat → Int64} {c_img1_world_seed c_img1_sights_count : Int32} {c_img1_sights_seeds : Nat → Int64} {c_trial_act_kind c_trial_act_set c_trial_act_key c_trial_act_other : Int32} {c_trial_tb_left c_trial_tb_right c_trial_tb_parent : Nat → Int32} {c_trial_tb_span : Nat → Int64} {c_trial_tb_root : Int32} {c_trial_tb_digest c_trial_tb_height c_trial_tb_priority : Nat → Int32} {c_trial_tb_pricedBy : Int32} {c_trial_tb_open c_trial_ta_left c_trial_ta_right c_trial_ta_parent : Nat → Int32} {c_trial_ta_span : Nat → Int64} {c_trial_ta_root : Int32} {c_trial_ta_digest c_trial_ta_height c_trial_ta_priority : Nat → Int32} {c_trial_ta_pricedBy : Int32} {c_trial_ta_open : Nat → Int32} {c_trial_after_keys : Nat → Int64} {c_trial_after_seed : Int32} {c_trial_before_keys : Nat → Int64} {c_trial_before_seed c_trial_acts c_trial_whyNot c_trial_work c_trial_alikeAct c_trial_alikePair : Int32} {l1 : Int32} {R : Int32 × (Nat → Int32) × (Nat → Int32) × (Nat → Int32) × (Nat → Int64) × Int32 × (Nat → Int32) × (Nat → Int32) × (Nat → Int32) × Int32 × (Nat → Int32)} (h : f_X7_told c_now_keys c_now_seed c_pad_count c_sights_count c_trial_tb_left c_trial_tb_right c_trial_tb_parent c_trial_tb_span c_trial_tb_root c_trial_tb_digest c_trial_tb_height c_trial_tb_priority c_trial_tb_pricedBy c_trial_tb_open l1 = some R) : Ret1 l E yX7_told cX7_told 2 (some .int) 5 (wX7 E a o c_now_keys c_now_seed c_drawn_keys c_drawn_seed c_pad_signs c_pad_count c_sights_count c_sights_seeds c_img0_kept c_img0_world_keys c_img0_world_seed c_img0_sights_count c_img0_sights_seeds c_img1_kept c_img1_world_keys c_img1_world_seed c_img1_sights_count c_img1_sights_seeds c_trial_act_kind c_trial_act_set c_trial_act_key c_trial_act_other c_trial_tb_left c_trial_tb_right c_trial_tb_parent c_trial_tb_span c_trial_tb_root c_trial_tb_digest c_trial_tb_height c_trial_tb_priority c_trial_tb_pricedBy c_trial_tb_open c_trial_ta_left c_trial_ta_right c_trial_ta_parent c_trial_ta_span c_trial_ta_root c_trial_ta_digest c_trial_ta_height c_trial_ta_priority c_trial_ta_pricedBy c_trial_ta_open c_trial_after_keys c_trial_after_seed c_trial_before_keys c_trial_before_seed c_trial_acts c_trial_whyNot c_trial_work c_trial_alikeAct c_trial_alikePair) [.ref (a o), .int l1] (some (.int R.1)) (wX7 E a o c_now_keys c_now_seed c_drawn_keys c_drawn_seed c_pad_signs c_pad_count c_sights_count c_sights_seeds c_img0_kept c_img0_world_keys c_img0_world_seed c_img0_sights_count c_img0_sights_seeds c_img1_kept c_img1_world_keys c_img1_world_seed c_img1_sights_count c_img1_sights_seeds c_trial_act_kind c_trial_act_set c_trial_act_key c_trial_act_other R.2.1 R.2.2.1 R.2.2.2.1 R.2.2.2.2.1 R.2.2.2.2.2.1 R.2.2.2.2.2.2.1 R.2.2.2.2.2.2.2.1 R.2.2.2.2.2.2.2.2.1 R.2.2.2.2.2.2.2.2.2.1 R.2.2.2.2.2.2.2.2.2.2 c_trial_ta_left c_trial_ta_right c_trial_ta_parent c_trial_ta_span c_trial_ta_root c_trial_ta_digest c_trial_ta_height c_trial_ta_priority c_trial_ta_pricedBy c_trial_ta_open c_trial_after_keys c_trial_after_seed c_trial_before_keys c_trial_before_seed c_trial_acts c_trial_whyNot c_trial_work c_trial_alikeAct c_trial_alikePair) := by
  refine Ret.intro (lv := [(0, .ref (a o)), (1, .int l1)]) (by decide) (Nat.le_of_ble_eq_true rfl) rfl ?_
  intro g hgl G hQ
  subst hgl
  rw [f_X7_told] at h
  refine w_iload_n (pc2 := 1) G 1 rfl dX7_told_0 rfl rfl ?_
  by_cases sdX7_told_1_0 : l1 = (0 : Int32)
  · replace h := (if_pos sdX7_told_1_0).symm.trans h
    refine w_tabIn (tgt := 28) G sdX7_told_1_0 dX7_told_1 (by decide) (by decide) rfl (by decide) ?_
    refine w_aload_n (pc2 := 29) G 0 rfl dX7_told_28 rfl rfl ?_
    refine w_get (pc2 := 32) G foX7_22 0 rfl rfl dX7_told_29 rfl ?_
    refine w_get (pc2 := 35) G foX7_100 5 rfl rfl dX7_told_32 rfl ?_
    cases h
    exact w_iret G hQ rfl ⟨rfl, rfl⟩ dX7_told_35
  replace h := (if_neg sdX7_told_1_0).symm.trans h
  by_cases sdX7_told_1_1 : l1 = (1 : Int32)
  · replace h := (if_pos sdX7_told_1_1).symm.trans h
    refine w_tabIn (tgt := 36) G sdX7_told_1_1 dX7_told_1 (by decide) (by decide) rfl (by decide) ?_
    refine w_aload_n (pc2 := 37) G 0 rfl dX7_told_36 rfl rfl ?_
    refine w_get (pc2 := 40) G foX7_10 0 rfl rfl dX7_told_37 rfl ?_
    refine w_get (pc2 := 43) G foX7_69 1 rfl rfl dX7_told_40 rfl ?_
    cases h
    exact w_iret G hQ rfl ⟨rfl, rfl⟩ dX7_told_43
  replace h := (if_neg sdX7_told_1_1).symm.trans h
  by_cases sdX7_told_1_2 : l1 = (2 : Int32)
  · replace h := (if_pos sdX7_told_1_2).symm.trans h
    refine w_tabIn (tgt := 44) G sdX7_told_1_2 dX7_told_1 (by decide) (by decide) rfl (by decide) ?_
    refine w_aload_n (pc2 := 45) G 0 rfl dX7_told_44 rfl rfl ?_
    refine w_get (pc2 := 48) G foX7_29 0 rfl rfl dX7_told_45 rfl ?_
    refine w_get (pc2 := 51) G foX7_200 7 rfl rfl dX7_told_48 rfl ?_
    cases h
    exact w_iret G hQ rfl ⟨rfl, rfl⟩ dX7_told_51
  replace h := (if_neg sdX7_told_1_2).symm.trans h
  refine w_tabOut (tgt := 52) G dX7_told_1 (by have e0 := ne_ti sdX7_told_1_0; have e1 := ne_ti sdX7_told_1_1; have e2 := ne_ti sdX7_told_1_2; rw [show (0 : Int32).toInt = 0 from rfl] at e0; rw [show (1 : Int32).toInt = 1 from rfl] at e1; rw [show (2 : Int32).toInt = 2 from rfl] at e2; omega) (by decide) ?_
  refine w_aload_n (pc2 := 53) G 0 rfl dX7_told_52 rfl rfl ?_
  refine w_iload_n (pc2 := 54) G 1 rfl dX7_told_53 rfl rfl ?_
  obtain ⟨x1, H_x1, h⟩ := bs h
  refine w_cV0 (pc2 := 57) (ws2 := (wX7 E a o c_now_keys c_now_seed c_drawn_keys c_drawn_seed c_pad_signs c_pad_count c_sights_count c_sights_seeds c_img0_kept c_img0_world_keys c_img0_world_seed c_img0_sights_count c_img0_sights_seeds c_img1_kept c_img1_world_keys c_img1_world_seed c_img1_sights_count c_img1_sights_seeds c_trial_act_kind c_trial_act_set c_trial_act_key c_trial_act_other x1.2.1 x1.2.2.1 x1.2.2.2.1 x1.2.2.2.2.1 x1.2.2.2.2.2.1 x1.2.2.2.2.2.2.1 x1.2.2.2.2.2.2.2.1 x1.2.2.2.2.2.2.2.2.1 x1.2.2.2.2.2.2.2.2.2.1 x1.2.2.2.2.2.2.2.2.2.2 c_trial_ta_left c_trial_ta_right c_trial_ta_parent c_trial_ta_span c_trial_ta_root c_trial_ta_digest c_trial_ta_height c_trial_ta_priority c_trial_ta_pricedBy c_trial_ta_open c_trial_after_keys c_trial_after_seed c_trial_before_keys c_trial_before_seed c_trial_acts c_trial_whyNot c_trial_work c_trial_alikeAct c_trial_alikePair)) (As := [.int l1]) (rest := []) G koX7_258 (r_X7_toldOfSets H_x1) (Nat.le_of_ble_eq_true rfl) 7 rfl rfl rfl rfl (Nat.le_of_ble_eq_true rfl) ⟨Nat.zero_le _, Nat.zero_le _⟩ dX7_told_54 rfl rfl ?_
  cases h
  exact w_iret G hQ rfl ⟨rfl, rfl⟩ dX7_told_57

set_option maxHeartbeats 4000000 in
set_option maxRecDepth 100000 in
theorem r_X8_in {l : Launch} {E : EV}  {l0 : Int64} {l2 : Int64} {l4 : Int64} {R : Int32} (h : f_X8_in l0 l2 l4 = some R) : Ret1 l E yX8_in cX8_in 6 (some .boolean) 0 [] [.long l0, .long l2, .long l4] (some (.int R)) [] := by
  refine Ret.intro (lv := [(0, .long l0), (2, .long l2), (4, .long l4)]) (by decide) (Nat.le_of_ble_eq_true rfl) rfl ?_
  intro g hgl G hQ
  subst hgl
  rw [f_X8_in] at h
  refine w_lload_n (pc2 := 1) G 0 rfl dX8_in_0 rfl rfl ?_
  refine w_lload_n (pc2 := 2) G 1 rfl dX8_in_1 rfl rfl ?_
  refine w_lcmp (pc2 := 3) G dX8_in_2 rfl ?_
  refine w_if_lt (tgt := 17) (pc2 := 6) G dX8_in_3 (by decide) rfl (fun cc => ?_) (fun cc => ?_)
  · replace h := (if_pos cc).symm.trans h
    refine w_iconst (pc2 := 18) G dX8_in_17 k_iconst_0 rfl ?_
    cases h
    exact w_zret G hQ rfl (Or.inl rfl) ⟨rfl, rfl⟩ dX8_in_18
  · replace h := (if_neg cc).symm.trans h
    refine w_lload_n (pc2 := 7) G 0 rfl dX8_in_6 rfl rfl ?_
    refine w_lload (pc2 := 9) G 2 rfl dX8_in_7 rfl ?_
    refine w_lcmp (pc2 := 10) G dX8_in_9 rfl ?_
    refine w_if_gt (tgt := 17) (pc2 := 13) G dX8_in_10 (by decide) rfl (fun cc => ?_) (fun cc => ?_)
    · replace h := (if_pos cc).symm.trans h
      refine w_iconst (pc2 := 18) G dX8_in_17 k_iconst_0 rfl ?_
      cases h
      exact w_zret G hQ rfl (Or.inl rfl) ⟨rfl, rfl⟩ dX8_in_18
    · replace h := (if_neg cc).symm.trans h
      refine w_iconst (pc2 := 14) G dX8_in_13 k_iconst_1 rfl ?_
      refine w_goto (tgt := 18) G dX8_in_14 (by decide) ?_
      cases h
      exact w_zret G hQ rfl (Or.inr rfl) ⟨rfl, rfl⟩ dX8_in_18

set_option maxHeartbeats 4000000 in
set_option maxRecDepth 100000 in
theorem r_X8_isSet {l : Launch} {E : EV}  {l0 : Int32} {R : Int32} (h : f_X8_isSet l0 = some R) : Ret1 l E yX8_isSet cX8_isSet 1 (some .boolean) 1 [] [.int l0] (some (.int R)) [] := by
  refine Ret.intro (lv := [(0, .int l0)]) (by decide) (Nat.le_of_ble_eq_true rfl) rfl ?_
  intro g hgl G hQ
  subst hgl
  rw [f_X8_isSet] at h
  refine w_iload_n (pc2 := 1) G 0 rfl dX8_isSet_0 rfl rfl ?_
  refine w_i2l (pc2 := 2) G dX8_isSet_1 rfl ?_
  refine w_lconst (pc2 := 3) G dX8_isSet_2 k_lconst_0 rfl ?_
  refine w_ldc2 (pc2 := 6) G wd_185 dX8_isSet_3 rfl ?_
  obtain ⟨x1, H_x1, h⟩ := bs h
  refine w_cS0 (pc2 := 9) (As := [.long l0.toInt64, .long (0 : Int64), .long (3 : Int64)]) (rest := []) G koX8_68 (r_X8_in H_x1) (Nat.le_of_ble_eq_true rfl) rfl rfl (Nat.le_of_ble_eq_true rfl) ⟨Nat.zero_le _, Nat.zero_le _⟩ dX8_isSet_6 rfl rfl ?_
  obtain ⟨v2, H_v2, h⟩ := bs h
  cases h
  exact w_zret G hQ rfl (bz_some H_v2) ⟨rfl, rfl⟩ dX8_isSet_9

set_option maxHeartbeats 4000000 in
set_option maxRecDepth 100000 in
theorem r_X8_isKey {l : Launch} {E : EV}  {l0 : Int32} {R : Int32} (h : f_X8_isKey l0 = some R) : Ret1 l E yX8_isKey cX8_isKey 1 (some .boolean) 1 [] [.int l0] (some (.int R)) [] := by
  refine Ret.intro (lv := [(0, .int l0)]) (by decide) (Nat.le_of_ble_eq_true rfl) rfl ?_
  intro g hgl G hQ
  subst hgl
  rw [f_X8_isKey] at h
  refine w_iload_n (pc2 := 1) G 0 rfl dX8_isKey_0 rfl rfl ?_
  refine w_i2l (pc2 := 2) G dX8_isKey_1 rfl ?_
  refine w_lconst (pc2 := 3) G dX8_isKey_2 k_lconst_0 rfl ?_
  refine w_ldc2 (pc2 := 6) G wd_189 dX8_isKey_3 rfl ?_
  obtain ⟨x1, H_x1, h⟩ := bs h
  refine w_cS0 (pc2 := 9) (As := [.long l0.toInt64, .long (0 : Int64), .long (49 : Int64)]) (rest := []) G koX8_68 (r_X8_in H_x1) (Nat.le_of_ble_eq_true rfl) rfl rfl (Nat.le_of_ble_eq_true rfl) ⟨Nat.zero_le _, Nat.zero_le _⟩ dX8_isKey_6 rfl rfl ?_
  obtain ⟨v2, H_v2, h⟩ := bs h
  cases h
  exact w_zret G hQ rfl (bz_some H_v2) ⟨rfl, rfl⟩ dX8_isKey_9

set_option maxHeartbeats 4000000 in
set_option maxRecDepth 100000 in
theorem r_X8_has {l : Launch} {E : EV} {a : Nat → Nat} {o : Nat} {c_seed : Int32} {c_is c_sightOne c_sightOther : Nat → Int32} {c_sights : Int32} {c_pad : Nat → Int32} {c_padMany : Int32} {c_act c_which c_key c_other : Nat → Int32} {c_acts : Int32} {c_order : Nat → Int32} {c_digest : Nat → Int64} {c_tall c_had : Nat → Int32} {c_badAct c_badWhy c_alikeAct c_alikeTwo c_work c_isWorked : Int32} {c_trees : Nat → Int64} {c_from c_upTo : Nat → Int32} {c_shape : Nat → Int64} {c_kept c_isKept : Nat → Int32} {c_keptAt c_isWriting : Int32} {l1 : Int32} {l2 : Int32} {R : Int32} (h : f_X8_has c_is l1 l2 = some R) : Ret1 l E yX8_has cX8_has 3 (some .boolean) 0 (wX8 E a o c_seed c_is c_sightOne c_sightOther c_sights c_pad c_padMany c_act c_which c_key c_other c_acts c_order c_digest c_tall c_had c_badAct c_badWhy c_alikeAct c_alikeTwo c_work c_isWorked c_trees c_from c_upTo c_shape c_kept c_isKept c_keptAt c_isWriting) [.ref (a o), .int l1, .int l2] (some (.int R)) (wX8 E a o c_seed c_is c_sightOne c_sightOther c_sights c_pad c_padMany c_act c_which c_key c_other c_acts c_order c_digest c_tall c_had c_badAct c_badWhy c_alikeAct c_alikeTwo c_work c_isWorked c_trees c_from c_upTo c_shape c_kept c_isKept c_keptAt c_isWriting) := by
  refine Ret.intro (lv := [(0, .ref (a o)), (1, .int l1), (2, .int l2)]) (by decide) (Nat.le_of_ble_eq_true rfl) rfl ?_
  intro g hgl G hQ
  subst hgl
  rw [f_X8_has] at h
  refine w_aload_n (pc2 := 1) G 0 rfl dX8_has_0 rfl rfl ?_
  refine w_get (pc2 := 4) G foX8_7 0 rfl rfl dX8_has_1 rfl ?_
  refine w_bipush (pc2 := 6) G dX8_has_4 k_bipush_50 rfl ?_
  refine w_iload_n (pc2 := 7) G 1 rfl dX8_has_6 rfl rfl ?_
  refine w_imul (pc2 := 8) G dX8_has_7 rfl ?_
  refine w_iload_n (pc2 := 9) G 2 rfl dX8_has_8 rfl rfl ?_
  refine w_iadd (pc2 := 10) G dX8_has_9 rfl ?_
  obtain ⟨v1, H_v1, h⟩ := bs h
  refine w_ialdo (pc2 := 11) G 1 rfl H_v1 dX8_has_10 rfl ?_
  refine w_iconst (pc2 := 12) G dX8_has_11 k_iconst_1 rfl ?_
  refine w_icmp_ne (tgt := 19) (pc2 := 15) G dX8_has_12 (by decide) rfl (fun cc => ?_) (fun cc => ?_)
  · replace h := (if_neg cc).symm.trans h
    refine w_iconst (pc2 := 20) G dX8_has_19 k_iconst_0 rfl ?_
    cases h
    exact w_zret G hQ rfl (Or.inl rfl) ⟨rfl, rfl⟩ dX8_has_20
  · replace h := (if_pos cc).symm.trans h
    refine w_iconst (pc2 := 16) G dX8_has_15 k_iconst_1 rfl ?_
    refine w_goto (tgt := 20) G dX8_has_16 (by decide) ?_
    cases h
    exact w_zret G hQ rfl (Or.inr rfl) ⟨rfl, rfl⟩ dX8_has_20

set_option maxHeartbeats 4000000 in
set_option maxRecDepth 100000 in
theorem lp_X8_many_4 {g : CX} {E : EV} {a : Nat → Nat} {o : Nat} {c_seed : Int32} {c_sightOne c_sightOther : Nat → Int32} {c_sights : Int32} {c_pad : Nat → Int32} {c_padMany : Int32} {c_act c_which c_key c_other : Nat → Int32} {c_acts : Int32} {c_order : Nat → Int32} {c_digest : Nat → Int64} {c_tall c_had : Nat → Int32} {c_badAct c_badWhy c_alikeAct c_alikeTwo c_work c_isWorked : Int32} {c_trees : Nat → Int64} {c_from c_upTo : Nat → Int32} {c_shape : Nat → Int64} {c_kept c_isKept : Nat → Int32} {c_keptAt c_isWriting : Int32}  (G : GG g E RX8 cX8_many 4 (some .int) 0 0 0) : ∀ (n : Nat) (c_is : Nat → Int32) (l1 : Int32) (l2 : Int32) (l3 : Int32) (R : Int32), L_X8_many_4 n c_is l1 l2 l3 = some R → WW g E 4 0 0 (wX8 E a o c_seed c_is c_sightOne c_sightOther c_sights c_pad c_padMany c_act c_which c_key c_other c_acts c_order c_digest c_tall c_had c_badAct c_badWhy c_alikeAct c_alikeTwo c_work c_isWorked c_trees c_from c_upTo c_shape c_kept c_isKept c_keptAt c_isWriting) [(2, .int R)] 30 [] → WW g E 4 0 0 (wX8 E a o c_seed c_is c_sightOne c_sightOther c_sights c_pad c_padMany c_act c_which c_key c_other c_acts c_order c_digest c_tall c_had c_badAct c_badWhy c_alikeAct c_alikeTwo c_work c_isWorked c_trees c_from c_upTo c_shape c_kept c_isKept c_keptAt c_isWriting) [(0, .ref (a o)), (1, .int l1), (2, .int l2), (3, .int l3)] 4 [] := by
  intro n
  induction n with
  | zero => intro c_is l1 l2 l3 R h; exact no_some h
  | succ n ih =>
    intro c_is l1 l2 l3 R h K
    rw [L_X8_many_4] at h
    refine w_iload_n (pc2 := 5) G 3 rfl dX8_many_4 rfl rfl ?_
    refine w_bipush (pc2 := 7) G dX8_many_5 k_bipush_50 rfl ?_
    refine w_icmp_ge (tgt := 30) (pc2 := 10) G dX8_many_7 (by decide) rfl (fun cc => ?_) (fun cc => ?_)
    · replace h := (if_pos cc).symm.trans h
      cases h
      exact w_lv [2] rfl K
    · replace h := (if_neg cc).symm.trans h
      refine w_iload_n (pc2 := 11) G 2 rfl dX8_many_10 rfl rfl ?_
      refine w_aload_n (pc2 := 12) G 0 rfl dX8_many_11 rfl rfl ?_
      refine w_get (pc2 := 15) G foX8_7 0 rfl rfl dX8_many_12 rfl ?_
      refine w_bipush (pc2 := 17) G dX8_many_15 k_bipush_50 rfl ?_
      refine w_iload_n (pc2 := 18) G 1 rfl dX8_many_17 rfl rfl ?_
      refine w_imul (pc2 := 19) G dX8_many_18 rfl ?_
      refine w_iload_n (pc2 := 20) G 3 rfl dX8_many_19 rfl rfl ?_
      refine w_iadd (pc2 := 21) G dX8_many_20 rfl ?_
      obtain ⟨v1, H_v1, h⟩ := bs h
      refine w_ialdo (pc2 := 22) G 1 rfl H_v1 dX8_many_21 rfl ?_
      refine w_iadd (pc2 := 23) G dX8_many_22 rfl ?_
      refine w_istore_n (pc2 := 24) (lv2 := [(2, .int (l2 + v1)), (0, .ref (a o)), (1, .int l1), (3, .int l3)]) G dX8_many_23 rfl (Nat.le_of_ble_eq_true rfl) rfl rfl ?_
      refine w_iinc (pc2 := 27) (lv2 := [(3, .int (l3 + (1 : Int32))), (2, .int (l2 + v1)), (0, .ref (a o)), (1, .int l1)]) G 3 rfl dX8_many_24 k_iconst_1 (Nat.le_of_ble_eq_true rfl) rfl rfl ?_
      refine w_goto (tgt := 4) G dX8_many_27 (by decide) ?_
      exact w_lv [2, 3, 1, 0] rfl (ih _ _ _ _ _ h K)
set_option maxHeartbeats 4000000 in
set_option maxRecDepth 100000 in
theorem r_X8_many {l : Launch} {E : EV} {a : Nat → Nat} {o : Nat} {c_seed : Int32} {c_is c_sightOne c_sightOther : Nat → Int32} {c_sights : Int32} {c_pad : Nat → Int32} {c_padMany : Int32} {c_act c_which c_key c_other : Nat → Int32} {c_acts : Int32} {c_order : Nat → Int32} {c_digest : Nat → Int64} {c_tall c_had : Nat → Int32} {c_badAct c_badWhy c_alikeAct c_alikeTwo c_work c_isWorked : Int32} {c_trees : Nat → Int64} {c_from c_upTo : Nat → Int32} {c_shape : Nat → Int64} {c_kept c_isKept : Nat → Int32} {c_keptAt c_isWriting : Int32} {l1 : Int32} {R : Int32} (h : f_X8_many c_is l1 = some R) : Ret1 l E yX8_many cX8_many 4 (some .int) 0 (wX8 E a o c_seed c_is c_sightOne c_sightOther c_sights c_pad c_padMany c_act c_which c_key c_other c_acts c_order c_digest c_tall c_had c_badAct c_badWhy c_alikeAct c_alikeTwo c_work c_isWorked c_trees c_from c_upTo c_shape c_kept c_isKept c_keptAt c_isWriting) [.ref (a o), .int l1] (some (.int R)) (wX8 E a o c_seed c_is c_sightOne c_sightOther c_sights c_pad c_padMany c_act c_which c_key c_other c_acts c_order c_digest c_tall c_had c_badAct c_badWhy c_alikeAct c_alikeTwo c_work c_isWorked c_trees c_from c_upTo c_shape c_kept c_isKept c_keptAt c_isWriting) := by
  refine Ret.intro (lv := [(0, .ref (a o)), (1, .int l1)]) (by decide) (Nat.le_of_ble_eq_true rfl) rfl ?_
  intro g hgl G hQ
  subst hgl
  rw [f_X8_many] at h
  refine w_iconst (pc2 := 1) G dX8_many_0 k_iconst_0 rfl ?_
  refine w_istore_n (pc2 := 2) (lv2 := [(2, .int (0 : Int32)), (0, .ref (a o)), (1, .int l1)]) G dX8_many_1 rfl (Nat.le_of_ble_eq_true rfl) rfl rfl ?_
  refine w_iconst (pc2 := 3) G dX8_many_2 k_iconst_0 rfl ?_
  refine w_istore_n (pc2 := 4) (lv2 := [(3, .int (0 : Int32)), (2, .int (0 : Int32)), (0, .ref (a o)), (1, .int l1)]) G dX8_many_3 rfl (Nat.le_of_ble_eq_true rfl) rfl rfl ?_
  obtain ⟨x1, h0, h⟩ := bs h
  have K_x1 : WW g E 4 0 0 (wX8 E a o c_seed c_is c_sightOne c_sightOther c_sights c_pad c_padMany c_act c_which c_key c_other c_acts c_order c_digest c_tall c_had c_badAct c_badWhy c_alikeAct c_alikeTwo c_work c_isWorked c_trees c_from c_upTo c_shape c_kept c_isKept c_keptAt c_isWriting) [(2, .int x1)] 30 [] := by
    clear h0
    refine w_iload_n (pc2 := 31) G 0 rfl dX8_many_30 rfl rfl ?_
    cases h
    exact w_iret G hQ rfl ⟨rfl, rfl⟩ dX8_many_31
  exact w_lv [2, 3, 1, 0] rfl (lp_X8_many_4 G 20000 _ _ _ _ _ h0 (w_lv [0] rfl K_x1))

set_option maxHeartbeats 4000000 in
set_option maxRecDepth 100000 in
theorem r_X8_priorityBy {l : Launch} {E : EV}  {l0 : Int32} {l1 : Int32} {R : Int32} (h : f_X8_priorityBy l0 l1 = some R) : Ret1 l E yX8_priorityBy cX8_priorityBy 3 (some .int) 0 [] [.int l0, .int l1] (some (.int R)) [] := by
  refine Ret.intro (lv := [(0, .int l0), (1, .int l1)]) (by decide) (Nat.le_of_ble_eq_true rfl) rfl ?_
  intro g hgl G hQ
  subst hgl
  rw [f_X8_priorityBy] at h
  refine w_iload_n (pc2 := 1) G 0 rfl dX8_priorityBy_0 rfl rfl ?_
  refine w_sipush (pc2 := 4) G dX8_priorityBy_1 k_sipush_131 rfl ?_
  refine w_iload_n (pc2 := 5) G 1 rfl dX8_priorityBy_4 rfl rfl ?_
  refine w_imul (pc2 := 6) G dX8_priorityBy_5 rfl ?_
  refine w_iadd (pc2 := 7) G dX8_priorityBy_6 rfl ?_
  refine w_sipush (pc2 := 10) G dX8_priorityBy_7 k_sipush_10007 rfl ?_
  refine w_irem (pc2 := 11) G dX8_priorityBy_10 (by decide) rfl ?_
  refine w_istore_n (pc2 := 12) (lv2 := [(2, .int ((l0 + ((131 : Int32) * l1)) - (l0 + ((131 : Int32) * l1)) / (10007 : Int32) * (10007 : Int32))), (0, .int l0), (1, .int l1)]) G dX8_priorityBy_11 rfl (Nat.le_of_ble_eq_true rfl) rfl rfl ?_
  refine w_iload_n (pc2 := 13) G 0 rfl dX8_priorityBy_12 rfl rfl ?_
  refine w_iload_n (pc2 := 14) G 0 rfl dX8_priorityBy_13 rfl rfl ?_
  refine w_imul (pc2 := 15) G dX8_priorityBy_14 rfl ?_
  refine w_sipush (pc2 := 18) G dX8_priorityBy_15 k_sipush_10007 rfl ?_
  refine w_irem (pc2 := 19) G dX8_priorityBy_18 (by decide) rfl ?_
  cases h
  exact w_iret G hQ rfl ⟨rfl, rfl⟩ dX8_priorityBy_19

set_option maxHeartbeats 4000000 in
set_option maxRecDepth 100000 in
theorem r_X8_ranksBy {l : Launch} {E : EV}  {l0 : Int32} {l1 : Int32} {l2 : Int32} {R : Int32} (h : f_X8_ranksBy l0 l1 l2 = some R) : Ret1 l E yX8_ranksBy cX8_ranksBy 5 (some .boolean) 1 [] [.int l0, .int l1, .int l2] (some (.int R)) [] := by
  refine Ret.intro (lv := [(0, .int l0), (1, .int l1), (2, .int l2)]) (by decide) (Nat.le_of_ble_eq_true rfl) rfl ?_
  intro g hgl G hQ
  subst hgl
  rw [f_X8_ranksBy] at h
  refine w_iload_n (pc2 := 1) G 0 rfl dX8_ranksBy_0 rfl rfl ?_
  refine w_iload_n (pc2 := 2) G 1 rfl dX8_ranksBy_1 rfl rfl ?_
  obtain ⟨x1, H_x1, h⟩ := bs h
  refine w_cS0 (pc2 := 5) (As := [.int l0, .int l1]) (rest := []) G koX8_74 (r_X8_priorityBy H_x1) (Nat.le_of_ble_eq_true rfl) rfl rfl (Nat.le_of_ble_eq_true rfl) ⟨Nat.zero_le _, Nat.zero_le _⟩ dX8_ranksBy_2 rfl rfl ?_
  refine w_istore_n (pc2 := 6) (lv2 := [(3, .int x1), (0, .int l0), (1, .int l1), (2, .int l2)]) G dX8_ranksBy_5 rfl (Nat.le_of_ble_eq_true rfl) rfl rfl ?_
  refine w_iload_n (pc2 := 7) G 1 rfl dX8_ranksBy_6 rfl rfl ?_
  refine w_iload_n (pc2 := 8) G 3 rfl dX8_ranksBy_7 rfl rfl ?_
  obtain ⟨x2, H_x2, h⟩ := bs h
  refine w_cS0 (pc2 := 11) (As := [.int l0, .int l2]) (rest := []) G koX8_74 (r_X8_priorityBy H_x2) (Nat.le_of_ble_eq_true rfl) rfl rfl (Nat.le_of_ble_eq_true rfl) ⟨Nat.zero_le _, Nat.zero_le _⟩ dX8_ranksBy_8 rfl rfl ?_
  refine w_istore (pc2 := 13) (lv2 := [(4, .int x2), (3, .int x1), (0, .int l0), (1, .int l1), (2, .int l2)]) G dX8_ranksBy_11 (Nat.le_of_ble_eq_true rfl) rfl rfl ?_
  refine w_iload_n (pc2 := 14) G 1 rfl dX8_ranksBy_13 rfl rfl ?_
  refine w_iload (pc2 := 16) G 0 rfl dX8_ranksBy_14 rfl ?_
  refine w_icmp_gt (tgt := 30) (pc2 := 19) G dX8_ranksBy_16 (by decide) rfl (fun cc => ?_) (fun cc => ?_)
  · replace h := (if_pos cc).symm.trans h
    refine w_iconst (pc2 := 31) G dX8_ranksBy_30 k_iconst_1 rfl ?_
    refine w_goto (tgt := 35) G dX8_ranksBy_31 (by decide) ?_
    cases h
    exact w_zret G hQ rfl (Or.inr rfl) ⟨rfl, rfl⟩ dX8_ranksBy_35
  · replace h := (if_neg cc).symm.trans h
    refine w_iload_n (pc2 := 20) G 1 rfl dX8_ranksBy_19 rfl rfl ?_
    refine w_iload (pc2 := 22) G 0 rfl dX8_ranksBy_20 rfl ?_
    refine w_icmp_ne (tgt := 34) (pc2 := 25) G dX8_ranksBy_22 (by decide) rfl (fun cc => ?_) (fun cc => ?_)
    · replace h := (if_neg cc).symm.trans h
      refine w_iconst (pc2 := 35) G dX8_ranksBy_34 k_iconst_0 rfl ?_
      cases h
      exact w_zret G hQ rfl (Or.inl rfl) ⟨rfl, rfl⟩ dX8_ranksBy_35
    · replace h := (if_pos cc).symm.trans h
      refine w_iload_n (pc2 := 26) G 3 rfl dX8_ranksBy_25 rfl rfl ?_
      refine w_iload_n (pc2 := 27) G 4 rfl dX8_ranksBy_26 rfl rfl ?_
      refine w_icmp_ge (tgt := 34) (pc2 := 30) G dX8_ranksBy_27 (by decide) rfl (fun cc => ?_) (fun cc => ?_)
      · replace h := (if_pos cc).symm.trans h
        refine w_iconst (pc2 := 35) G dX8_ranksBy_34 k_iconst_0 rfl ?_
        cases h
        exact w_zret G hQ rfl (Or.inl rfl) ⟨rfl, rfl⟩ dX8_ranksBy_35
      · replace h := (if_neg cc).symm.trans h
        refine w_iconst (pc2 := 31) G dX8_ranksBy_30 k_iconst_1 rfl ?_
        refine w_goto (tgt := 35) G dX8_ranksBy_31 (by decide) ?_
        cases h
        exact w_zret G hQ rfl (Or.inr rfl) ⟨rfl, rfl⟩ dX8_ranksBy_35

set_option maxHeartbeats 4000000 in
set_option maxRecDepth 100000 in
theorem r_X8_ranks {l : Launch} {E : EV} {a : Nat → Nat} {o : Nat} {c_seed : Int32} {c_is c_sightOne c_sightOther : Nat → Int32} {c_sights : Int32} {c_pad : Nat → Int32} {c_padMany : Int32} {c_act c_which c_key c_other : Nat → Int32} {c_acts : Int32} {c_order : Nat → Int32} {c_digest : Nat → Int64} {c_tall c_had : Nat → Int32} {c_badAct c_badWhy c_alikeAct c_alikeTwo c_work c_isWorked : Int32} {c_trees : Nat → Int64} {c_from c_upTo : Nat → Int32} {c_shape : Nat → Int64} {c_kept c_isKept : Nat → Int32} {c_keptAt c_isWriting : Int32} {l1 : Int32} {l2 : Int32} {R : Int32} (h : f_X8_ranks c_seed l1 l2 = some R) : Ret1 l E yX8_ranks cX8_ranks 3 (some .boolean) 2 (wX8 E a o c_seed c_is c_sightOne c_sightOther c_sights c_pad c_padMany c_act c_which c_key c_other c_acts c_order c_digest c_tall c_had c_badAct c_badWhy c_alikeAct c_alikeTwo c_work c_isWorked c_trees c_from c_upTo c_shape c_kept c_isKept c_keptAt c_isWriting) [.ref (a o), .int l1, .int l2] (some (.int R)) (wX8 E a o c_seed c_is c_sightOne c_sightOther c_sights c_pad c_padMany c_act c_which c_key c_other c_acts c_order c_digest c_tall c_had c_badAct c_badWhy c_alikeAct c_alikeTwo c_work c_isWorked c_trees c_from c_upTo c_shape c_kept c_isKept c_keptAt c_isWriting) := by
  refine Ret.intro (lv := [(0, .ref (a o)), (1, .int l1), (2, .int l2)]) (by decide) (Nat.le_of_ble_eq_true rfl) rfl ?_
  intro g hgl G hQ
  subst hgl
  rw [f_X8_ranks] at h
  refine w_aload_n (pc2 := 1) G 0 rfl dX8_ranks_0 rfl rfl ?_
  refine w_get (pc2 := 4) G foX8_78 0 rfl rfl dX8_ranks_1 rfl ?_
  refine w_iload_n (pc2 := 5) G 1 rfl dX8_ranks_4 rfl rfl ?_
  refine w_iload_n (pc2 := 6) G 2 rfl dX8_ranks_5 rfl rfl ?_
  obtain ⟨x1, H_x1, h⟩ := bs h
  refine w_cS0 (pc2 := 9) (As := [.int c_seed, .int l1, .int l2]) (rest := []) G koX8_82 (r_X8_ranksBy H_x1) (Nat.le_of_ble_eq_true rfl) rfl rfl (Nat.le_of_ble_eq_true rfl) ⟨Nat.zero_le _, Nat.zero_le _⟩ dX8_ranks_6 rfl rfl ?_
  obtain ⟨v2, H_v2, h⟩ := bs h
  cases h
  exact w_zret G hQ rfl (bz_some H_v2) ⟨rfl, rfl⟩ dX8_ranks_9

set_option maxHeartbeats 4000000 in
set_option maxRecDepth 100000 in
theorem r_X8_seed {l : Launch} {E : EV} {a : Nat → Nat} {o : Nat} {c_seed : Int32} {c_is c_sightOne c_sightOther : Nat → Int32} {c_sights : Int32} {c_pad : Nat → Int32} {c_padMany : Int32} {c_act c_which c_key c_other : Nat → Int32} {c_acts : Int32} {c_order : Nat → Int32} {c_digest : Nat → Int64} {c_tall c_had : Nat → Int32} {c_badAct c_badWhy c_alikeAct c_alikeTwo c_work c_isWorked : Int32} {c_trees : Nat → Int64} {c_from c_upTo : Nat → Int32} {c_shape : Nat → Int64} {c_kept c_isKept : Nat → Int32} {c_keptAt c_isWriting : Int32} {l1 : Int32} {R : Int32 × Int32} (h : f_X8_seed c_seed l1 = some R) : Ret1 l E yX8_seed cX8_seed 3 (some .int) 1 (wX8 E a o c_seed c_is c_sightOne c_sightOther c_sights c_pad c_padMany c_act c_which c_key c_other c_acts c_order c_digest c_tall c_had c_badAct c_badWhy c_alikeAct c_alikeTwo c_work c_isWorked c_trees c_from c_upTo c_shape c_kept c_isKept c_keptAt c_isWriting) [.ref (a o), .int l1] (some (.int R.1)) (wX8 E a o R.2 c_is c_sightOne c_sightOther c_sights c_pad c_padMany c_act c_which c_key c_other c_acts c_order c_digest c_tall c_had c_badAct c_badWhy c_alikeAct c_alikeTwo c_work c_isWorked c_trees c_from c_upTo c_shape c_kept c_isKept c_keptAt c_isWriting) := by
  refine Ret.intro (lv := [(0, .ref (a o)), (1, .int l1)]) (by decide) (Nat.le_of_ble_eq_true rfl) rfl ?_
  intro g hgl G hQ
  subst hgl
  rw [f_X8_seed] at h
  refine w_iload_n (pc2 := 1) G 1 rfl dX8_seed_0 rfl rfl ?_
  refine w_i2l (pc2 := 2) G dX8_seed_1 rfl ?_
  refine w_lconst (pc2 := 3) G dX8_seed_2 k_lconst_0 rfl ?_
  refine w_ldc2 (pc2 := 6) G wd_194 dX8_seed_3 rfl ?_
  obtain ⟨x1, H_x1, h⟩ := bs h
  refine w_cS0 (pc2 := 9) (As := [.long l1.toInt64, .long (0 : Int64), .long (9999 : Int64)]) (rest := []) G koX8_68 (r_X8_in H_x1) (Nat.le_of_ble_eq_true rfl) rfl rfl (Nat.le_of_ble_eq_true rfl) ⟨Nat.zero_le _, Nat.zero_le _⟩ dX8_seed_6 rfl rfl ?_
  refine w_if_ne (tgt := 15) (pc2 := 12) G dX8_seed_9 (by decide) rfl (fun cc => ?_) (fun cc => ?_)
  · replace h := (if_neg cc).symm.trans h
    refine w_aload_n (pc2 := 16) G 0 rfl dX8_seed_15 rfl rfl ?_
    refine w_get (pc2 := 19) G foX8_78 0 rfl rfl dX8_seed_16 rfl ?_
    refine w_istore_n (pc2 := 20) (lv2 := [(2, .int c_seed), (0, .ref (a o)), (1, .int l1)]) G dX8_seed_19 rfl (Nat.le_of_ble_eq_true rfl) rfl rfl ?_
    refine w_aload_n (pc2 := 21) G 1 rfl dX8_seed_20 rfl rfl ?_
    refine w_iload_n (pc2 := 22) G 2 rfl dX8_seed_21 rfl rfl ?_
    refine w_put (pc2 := 25) (ws2 := (wX8 E a o l1 c_is c_sightOne c_sightOther c_sights c_pad c_padMany c_act c_which c_key c_other c_acts c_order c_digest c_tall c_had c_badAct c_badWhy c_alikeAct c_alikeTwo c_work c_isWorked c_trees c_from c_upTo c_shape c_kept c_isKept c_keptAt c_isWriting)) G foX8_78 tokX8 0 rfl rfl rfl rfl (Nat.le_of_ble_eq_true rfl) rfl dX8_seed_22 rfl ?_
    refine w_iload_n (pc2 := 26) G 0 rfl dX8_seed_25 rfl rfl ?_
    cases h
    exact w_iret G hQ rfl ⟨rfl, rfl⟩ dX8_seed_26
  · replace h := (if_pos cc).symm.trans h
    refine w_bipush (pc2 := 14) G dX8_seed_12 k_bipush_m2 rfl ?_
    cases h
    exact w_iret G hQ rfl ⟨rfl, rfl⟩ dX8_seed_14

set_option maxHeartbeats 4000000 in
set_option maxRecDepth 100000 in
theorem r_X8_put {l : Launch} {E : EV} {a : Nat → Nat} {o : Nat} {c_seed : Int32} {c_is c_sightOne c_sightOther : Nat → Int32} {c_sights : Int32} {c_pad : Nat → Int32} {c_padMany : Int32} {c_act c_which c_key c_other : Nat → Int32} {c_acts : Int32} {c_order : Nat → Int32} {c_digest : Nat → Int64} {c_tall c_had : Nat → Int32} {c_badAct c_badWhy c_alikeAct c_alikeTwo c_work c_isWorked : Int32} {c_trees : Nat → Int64} {c_from c_upTo : Nat → Int32} {c_shape : Nat → Int64} {c_kept c_isKept : Nat → Int32} {c_keptAt c_isWriting : Int32} {l1 : Int32} {l2 : Int32} {l3 : Int32} {R : Int32 × (Nat → Int32)} (h : f_X8_put c_is l1 l2 l3 = some R) : Ret1 l E yX8_put cX8_put 4 (some .int) 2 (wX8 E a o c_seed c_is c_sightOne c_sightOther c_sights c_pad c_padMany c_act c_which c_key c_other c_acts c_order c_digest c_tall c_had c_badAct c_badWhy c_alikeAct c_alikeTwo c_work c_isWorked c_trees c_from c_upTo c_shape c_kept c_isKept c_keptAt c_isWriting) [.ref (a o), .int l1, .int l2, .int l3] (some (.int R.1)) (wX8 E a o c_seed R.2 c_sightOne c_sightOther c_sights c_pad c_padMany c_act c_which c_key c_other c_acts c_order c_digest c_tall c_had c_badAct c_badWhy c_alikeAct c_alikeTwo c_work c_isWorked c_trees c_from c_upTo c_shape c_kept c_isKept c_keptAt c_isWriting) := by
  refine Ret.intro (lv := [(0, .ref (a o)), (1, .int l1), (2, .int l2), (3, .int l3)]) (by decide) (Nat.le_of_ble_eq_true rfl) rfl ?_
  intro g hgl G hQ
  subst hgl
  rw [f_X8_put] at h
  refine w_iload_n (pc2 := 1) G 1 rfl dX8_put_0 rfl rfl ?_
  obtain ⟨x1, H_x1, h⟩ := bs h
  refine w_cS0 (pc2 := 4) (As := [.int l1]) (rest := []) G koX8_88 (r_X8_isSet H_x1) (Nat.le_of_ble_eq_true rfl) rfl rfl (Nat.le_of_ble_eq_true rfl) ⟨Nat.zero_le _, Nat.zero_le _⟩ dX8_put_1 rfl rfl ?_
  refine w_if_eq (tgt := 14) (pc2 := 7) G dX8_put_4 (by decide) rfl (fun cc => ?_) (fun cc => ?_)
  · replace h := (if_pos cc).symm.trans h
    refine w_iconst (pc2 := 15) G dX8_put_14 k_iconst_m1 rfl ?_
    cases h
    exact w_iret G hQ rfl ⟨rfl, rfl⟩ dX8_put_15
  · replace h := (if_neg cc).symm.trans h
    refine w_iload_n (pc2 := 8) G 2 rfl dX8_put_7 rfl rfl ?_
    obtain ⟨x2, H_x2, h⟩ := bs h
    refine w_cS0 (pc2 := 11) (As := [.int l2]) (rest := []) G koX8_92 (r_X8_isKey H_x2) (Nat.le_of_ble_eq_true rfl) rfl rfl (Nat.le_of_ble_eq_true rfl) ⟨Nat.zero_le _, Nat.zero_le _⟩ dX8_put_8 rfl rfl ?_
    refine w_if_ne (tgt := 16) (pc2 := 14) G dX8_put_11 (by decide) rfl (fun cc => ?_) (fun cc => ?_)
    · replace h := (if_neg cc).symm.trans h
      refine w_iload_n (pc2 := 17) G 3 rfl dX8_put_16 rfl rfl ?_
      refine w_if_eq (tgt := 42) (pc2 := 20) G dX8_put_17 (by decide) rfl (fun cc => ?_) (fun cc => ?_)
      · replace h := (if_pos cc).symm.trans h
        refine w_aload_n (pc2 := 43) G 0 rfl dX8_put_42 rfl rfl ?_
        refine w_get (pc2 := 46) G foX8_7 0 rfl rfl dX8_put_43 rfl ?_
        refine w_bipush (pc2 := 48) G dX8_put_46 k_bipush_50 rfl ?_
        refine w_iload_n (pc2 := 49) G 1 rfl dX8_put_48 rfl rfl ?_
        refine w_imul (pc2 := 50) G dX8_put_49 rfl ?_
        refine w_iload_n (pc2 := 51) G 2 rfl dX8_put_50 rfl rfl ?_
        refine w_iadd (pc2 := 52) G dX8_put_51 rfl ?_
        refine w_iload_n (pc2 := 53) G 3 rfl dX8_put_52 rfl rfl ?_
        refine w_if_eq (tgt := 60) (pc2 := 56) G dX8_put_53 (by decide) rfl (fun cc => ?_) (fun cc => ?_)
        · replace h := (if_pos cc).symm.trans h
          refine w_iconst (pc2 := 61) G dX8_put_60 k_iconst_0 rfl ?_
          obtain ⟨f3, H_f3, h⟩ := bs h
          refine w_iasto (pc2 := 62) (ws2 := (wX8 E a o c_seed f3 c_sightOne c_sightOther c_sights c_pad c_padMany c_act c_which c_key c_other c_acts c_order c_digest c_tall c_had c_badAct c_badWhy c_alikeAct c_alikeTwo c_work c_isWorked c_trees c_from c_upTo c_shape c_kept c_isKept c_keptAt c_isWriting)) G 1 rfl H_f3 rfl dX8_put_61 rfl ?_
          refine w_aload_n (pc2 := 63) G 0 rfl dX8_put_62 rfl rfl ?_
          refine w_iload_n (pc2 := 64) G 1 rfl dX8_put_63 rfl rfl ?_
          obtain ⟨x4, H_x4, h⟩ := bs h
          refine w_cV0 (pc2 := 67) (ws2 := (wX8 E a o c_seed f3 c_sightOne c_sightOther c_sights c_pad c_padMany c_act c_which c_key c_other c_acts c_order c_digest c_tall c_had c_badAct c_badWhy c_alikeAct c_alikeTwo c_work c_isWorked c_trees c_from c_upTo c_shape c_kept c_isKept c_keptAt c_isWriting)) (As := [.int l1]) (rest := []) G koX8_99 (r_X8_many H_x4) (Nat.le_of_ble_eq_true rfl) 8 rfl rfl rfl rfl (Nat.le_of_ble_eq_true rfl) ⟨Nat.zero_le _, Nat.zero_le _⟩ dX8_put_64 rfl rfl ?_
          cases h
          exact w_iret G hQ rfl ⟨rfl, rfl⟩ dX8_put_67
        · replace h := (if_neg cc).symm.trans h
          refine w_iconst (pc2 := 57) G dX8_put_56 k_iconst_1 rfl ?_
          refine w_goto (tgt := 61) G dX8_put_57 (by decide) ?_
          obtain ⟨f5, H_f5, h⟩ := bs h
          refine w_iasto (pc2 := 62) (ws2 := (wX8 E a o c_seed f5 c_sightOne c_sightOther c_sights c_pad c_padMany c_act c_which c_key c_other c_acts c_order c_digest c_tall c_had c_badAct c_badWhy c_alikeAct c_alikeTwo c_work c_isWorked c_trees c_from c_upTo c_shape c_kept c_isKept c_keptAt c_isWriting)) G 1 rfl H_f5 rfl dX8_put_61 rfl ?_
          refine w_aload_n (pc2 := 63) G 0 rfl dX8_put_62 rfl rfl ?_
          refine w_iload_n (pc2 := 64) G 1 rfl dX8_put_63 rfl rfl ?_
          obtain ⟨x6, H_x6, h⟩ := bs h
          refine w_cV0 (pc2 := 67) (ws2 := (wX8 E a o c_seed f5 c_sightOne c_sightOther c_sights c_pad c_padMany c_act c_which c_key c_other c_acts c_order c_digest c_tall c_had c_badAct c_badWhy c_alikeAct c_alikeTwo c_work c_isWorked c_trees c_from c_upTo c_shape c_kept c_isKept c_keptAt c_isWriting)) (As := [.int l1]) (rest := []) G koX8_99 (r_X8_many H_x6) (Nat.le_of_ble_eq_true rfl) 8 rfl rfl rfl rfl (Nat.le_of_ble_eq_true rfl) ⟨Nat.zero_le _, Nat.zero_le _⟩ dX8_put_64 rfl rfl ?_
          cases h
          exact w_iret G hQ rfl ⟨rfl, rfl⟩ dX8_put_67
      · replace h := (if_neg cc).symm.trans h
        refine w_aload_n (pc2 := 21) G 0 rfl dX8_put_20 rfl rfl ?_
        refine w_iload_n (pc2 := 22) G 1 rfl dX8_put_21 rfl rfl ?_
        refine w_iload_n (pc2 := 23) G 2 rfl dX8_put_22 rfl rfl ?_
        obtain ⟨x7, H_x7, h⟩ := bs h
        refine w_cV0 (pc2 := 26) (ws2 := (wX8 E a o c_seed c_is c_sightOne c_sightOther c_sights c_pad c_padMany c_act c_which c_key c_other c_acts c_order c_digest c_tall c_had c_badAct c_badWhy c_alikeAct c_alikeTwo c_work c_isWorked c_trees c_from c_upTo c_shape c_kept c_isKept c_keptAt c_isWriting)) (As := [.int l1, .int l2]) (rest := []) G koX8_95 (r_X8_has H_x7) (Nat.le_of_ble_eq_true rfl) 8 rfl rfl rfl rfl (Nat.le_of_ble_eq_true rfl) ⟨Nat.zero_le _, Nat.zero_le _⟩ dX8_put_23 rfl rfl ?_
        refine w_if_ne (tgt := 42) (pc2 := 29) G dX8_put_26 (by decide) rfl (fun cc => ?_) (fun cc => ?_)
        · replace h := (if_neg cc).symm.trans h
          refine w_aload_n (pc2 := 43) G 0 rfl dX8_put_42 rfl rfl ?_
          refine w_get (pc2 := 46) G foX8_7 0 rfl rfl dX8_put_43 rfl ?_
          refine w_bipush (pc2 := 48) G dX8_put_46 k_bipush_50 rfl ?_
          refine w_iload_n (pc2 := 49) G 1 rfl dX8_put_48 rfl rfl ?_
          refine w_imul (pc2 := 50) G dX8_put_49 rfl ?_
          refine w_iload_n (pc2 := 51) G 2 rfl dX8_put_50 rfl rfl ?_
          refine w_iadd (pc2 := 52) G dX8_put_51 rfl ?_
          refine w_iload_n (pc2 := 53) G 3 rfl dX8_put_52 rfl rfl ?_
          refine w_if_eq (tgt := 60) (pc2 := 56) G dX8_put_53 (by decide) rfl (fun cc => ?_) (fun cc => ?_)
          · replace h := (if_pos cc).symm.trans h
            refine w_iconst (pc2 := 61) G dX8_put_60 k_iconst_0 rfl ?_
            obtain ⟨f8, H_f8, h⟩ := bs h
            refine w_iasto (pc2 := 62) (ws2 := (wX8 E a o c_seed f8 c_sightOne c_sightOther c_sights c_pad c_padMany c_act c_which c_key c_other c_acts c_order c_digest c_tall c_had c_badAct c_badWhy c_alikeAct c_alikeTwo c_work c_isWorked c_trees c_from c_upTo c_shape c_kept c_isKept c_keptAt c_isWriting)) G 1 rfl H_f8 rfl dX8_put_61 rfl ?_
            refine w_aload_n (pc2 := 63) G 0 rfl dX8_put_62 rfl rfl ?_
            refine w_iload_n (pc2 := 64) G 1 rfl dX8_put_63 rfl rfl ?_
            obtain ⟨x9, H_x9, h⟩ := bs h
            refine w_cV0 (pc2 := 67) (ws2 := (wX8 E a o c_seed f8 c_sightOne c_sightOther c_sights c_pad c_padMany c_act c_which c_key c_other c_acts c_order c_digest c_tall c_had c_badAct c_badWhy c_alikeAct c_alikeTwo c_work c_isWorked c_trees c_from c_upTo c_shape c_kept c_isKept c_keptAt c_isWriting)) (As := [.int l1]) (rest := []) G koX8_99 (r_X8_many H_x9) (Nat.le_of_ble_eq_true rfl) 8 rfl rfl rfl rfl (Nat.le_of_ble_eq_true rfl) ⟨Nat.zero_le _, Nat.zero_le _⟩ dX8_put_64 rfl rfl ?_
            cases h
            exact w_iret G hQ rfl ⟨rfl, rfl⟩ dX8_put_67
          · replace h := (if_neg cc).symm.trans h
            refine w_iconst (pc2 := 57) G dX8_put_56 k_iconst_1 rfl ?_
            refine w_goto (tgt := 61) G dX8_put_57 (by decide) ?_
            obtain ⟨f10, H_f10, h⟩ := bs h
            refine w_iasto (pc2 := 62) (ws2 := (wX8 E a o c_seed f10 c_sightOne c_sightOther c_sights c_pad c_padMany c_act c_which c_key c_other c_acts c_order c_digest c_tall c_had c_badAct c_badWhy c_alikeAct c_alikeTwo c_work c_isWorked c_trees c_from c_upTo c_shape c_kept c_isKept c_keptAt c_isWriting)) G 1 rfl H_f10 rfl dX8_put_61 rfl ?_
            refine w_aload_n (pc2 := 63) G 0 rfl dX8_put_62 rfl rfl ?_
            refine w_iload_n (pc2 := 64) G 1 rfl dX8_put_63 rfl rfl ?_
            obtain ⟨x11, H_x11, h⟩ := bs h
            refine w_cV0 (pc2 := 67) (ws2 := (wX8 E a o c_seed f10 c_sightOne c_sightOther c_sights c_pad c_padMany c_act c_which c_key c_other c_acts c_order c_digest c_tall c_had c_badAct c_badWhy c_alikeAct c_alikeTwo c_work c_isWorked c_trees c_from c_upTo c_shape c_kept c_isKept c_keptAt c_isWriting)) (As := [.int l1]) (rest := []) G koX8_99 (r_X8_many H_x11) (Nat.le_of_ble_eq_true rfl) 8 rfl rfl rfl rfl (Nat.le_of_ble_eq_true rfl) ⟨Nat.zero_le _, Nat.zero_le _⟩ dX8_put_64 rfl rfl ?_
            cases h
            exact w_iret G hQ rfl ⟨rfl, rfl⟩ dX8_put_67
        · replace h := (if_pos cc).symm.trans h
          refine w_aload_n (pc2 := 30) G 0 rfl dX8_put_29 rfl rfl ?_
          refine w_iload_n (pc2 := 31) G 1 rfl dX8_put_30 rfl rfl ?_
          obtain ⟨x12, H_x12, h⟩ := bs h
          refine w_cV0 (pc2 := 34) (ws2 := (wX8 E a o c_seed c_is c_sightOne c_sightOther c_sights c_pad c_padMany c_act c_which c_key c_other c_acts c_order c_digest c_tall c_had c_badAct c_badWhy c_alikeAct c_alikeTwo c_work c_isWorked c_trees c_from c_upTo c_shape c_kept c_isKept c_keptAt c_isWriting)) (As := [.int l1]) (rest := []) G koX8_99 (r_X8_many H_x12) (Nat.le_of_ble_eq_true rfl) 8 rfl rfl rfl rfl (Nat.le_of_ble_eq_true rfl) ⟨Nat.zero_le _, Nat.zero_le _⟩ dX8_put_31 rfl rfl ?_
          refine w_bipush (pc2 := 36) G dX8_put_34 k_bipush_40 rfl ?_
          refine w_icmp_ne (tgt := 42) (pc2 := 39) G dX8_put_36 (by decide) rfl (fun cc => ?_) (fun cc => ?_)
          · replace h := (if_neg cc).symm.trans h
            refine w_aload_n (pc2 := 43) G 0 rfl dX8_put_42 rfl rfl ?_
            refine w_get (pc2 := 46) G foX8_7 0 rfl rfl dX8_put_43 rfl ?_
            refine w_bipush (pc2 := 48) G dX8_put_46 k_bipush_50 rfl ?_
            refine w_iload_n (pc2 := 49) G 1 rfl dX8_put_48 rfl rfl ?_
            refine w_imul (pc2 := 50) G dX8_put_49 rfl ?_
            refine w_iload_n (pc2 := 51) G 2 rfl dX8_put_50 rfl rfl ?_
            refine w_iadd (pc2 := 52) G dX8_put_51 rfl ?_
            refine w_iload_n (pc2 := 53) G 3 rfl dX8_put_52 rfl rfl ?_
            refine w_if_eq (tgt := 60) (pc2 := 56) G dX8_put_53 (by decide) rfl (fun cc => ?_) (fun cc => ?_)
            · replace h := (if_pos cc).symm.trans h
              refine w_iconst (pc2 := 61) G dX8_put_60 k_iconst_0 rfl ?_
              obtain ⟨f13, H_f13, h⟩ := bs h
              refine w_iasto (pc2 := 62) (ws2 := (wX8 E a o c_seed f13 c_sightOne c_sightOther c_sights c_pad c_padMany c_act c_which c_key c_other c_acts c_order c_digest c_tall c_had c_badAct c_badWhy c_alikeAct c_alikeTwo c_work c_isWorked c_trees c_from c_upTo c_shape c_kept c_isKept c_keptAt c_isWriting)) G 1 rfl H_f13 rfl dX8_put_61 rfl ?_
              refine w_aload_n (pc2 := 63) G 0 rfl dX8_put_62 rfl rfl ?_
              refine w_iload_n (pc2 := 64) G 1 rfl dX8_put_63 rfl rfl ?_
              obtain ⟨x14, H_x14, h⟩ := bs h
              refine w_cV0 (pc2 := 67) (ws2 := (wX8 E a o c_seed f13 c_sightOne c_sightOther c_sights c_pad c_padMany c_act c_which c_key c_other c_acts c_order c_digest c_tall c_had c_badAct c_badWhy c_alikeAct c_alikeTwo c_work c_isWorked c_trees c_from c_upTo c_shape c_kept c_isKept c_keptAt c_isWriting)) (As := [.int l1]) (rest := []) G koX8_99 (r_X8_many H_x14) (Nat.le_of_ble_eq_true rfl) 8 rfl rfl rfl rfl (Nat.le_of_ble_eq_true rfl) ⟨Nat.zero_le _, Nat.zero_le _⟩ dX8_put_64 rfl rfl ?_
              cases h
              exact w_iret G hQ rfl ⟨rfl, rfl⟩ dX8_put_67
            · replace h := (if_neg cc).symm.trans h
              refine w_iconst (pc2 := 57) G dX8_put_56 k_iconst_1 rfl ?_
              refine w_goto (tgt := 61) G dX8_put_57 (by decide) ?_
              obtain ⟨f15, H_f15, h⟩ := bs h
              refine w_iasto (pc2 := 62) (ws2 := (wX8 E a o c_seed f15 c_sightOne c_sightOther c_sights c_pad c_padMany c_act c_which c_key c_other c_acts c_order c_digest c_tall c_had c_badAct c_badWhy c_alikeAct c_alikeTwo c_work c_isWorked c_trees c_from c_upTo c_shape c_kept c_isKept c_keptAt c_isWriting)) G 1 rfl H_f15 rfl dX8_put_61 rfl ?_
              refine w_aload_n (pc2 := 63) G 0 rfl dX8_put_62 rfl rfl ?_
              refine w_iload_n (pc2 := 64) G 1 rfl dX8_put_63 rfl rfl ?_
              obtain ⟨x16, H_x16, h⟩ := bs h
              refine w_cV0 (pc2 := 67) (ws2 := (wX8 E a o c_seed f15 c_sightOne c_sightOther c_sights c_pad c_padMany c_act c_which c_key c_other c_acts c_order c_digest c_tall c_had c_badAct c_badWhy c_alikeAct c_alikeTwo c_work c_isWorked c_trees c_from c_upTo c_shape c_kept c_isKept c_keptAt c_isWriting)) (As := [.int l1]) (rest := []) G koX8_99 (r_X8_many H_x16) (Nat.le_of_ble_eq_true rfl) 8 rfl rfl rfl rfl (Nat.le_of_ble_eq_true rfl) ⟨Nat.zero_le _, Nat.zero_le _⟩ dX8_put_64 rfl rfl ?_
              cases h
              exact w_iret G hQ rfl ⟨rfl, rfl⟩ dX8_put_67
          · replace h := (if_pos cc).symm.trans h
            refine w_bipush (pc2 := 41) G dX8_put_39 k_bipush_m4 rfl ?_
            cases h
            exact w_iret G hQ rfl ⟨rfl, rfl⟩ dX8_put_41
    · replace h := (if_pos cc).symm.trans h
      refine w_iconst (pc2 := 15) G dX8_put_14 k_iconst_m1 rfl ?_
      cases h
      exact w_iret G hQ rfl ⟨rfl, rfl⟩ dX8_put_15
