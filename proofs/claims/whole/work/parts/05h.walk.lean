set_option maxHeartbeats 4000000 in
set_option maxRecDepth 100000 in
theorem r_X7_differs {l : Launch} {E : EV} {a : Nat → Nat} {o : Nat} {c_now_keys : Nat → Int64} {c_now_seed : Int32} {c_drawn_keys : Nat → Int64} {c_drawn_seed : Int32} {c_pad_signs : Nat → Int32} {c_pad_count c_sights_count : Int32} {c_sights_seeds : Nat → Int64} {c_img0_kept : Int32} {c_img0_world_keys : Nat → Int64} {c_img0_world_seed c_img0_sights_count : Int32} {c_img0_sights_seeds : Nat → Int64} {c_img1_kept : Int32} {c_img1_world_keys : Nat → Int64} {c_img1_world_seed c_img1_sights_count : Int32} {c_img1_sights_seeds : Nat → Int64} {c_trial_act_kind c_trial_act_set c_trial_act_key c_trial_act_other : Int32} {c_trial_tb_left c_trial_tb_right c_trial_tb_parent : Nat → Int32} {c_trial_tb_span : Nat → Int64} {c_trial_tb_root : Int32} {c_trial_tb_digest c_trial_tb_height c_trial_tb_priority : Nat → Int32} {c_trial_tb_pricedBy : Int32} {c_trial_tb_open c_trial_ta_left c_trial_ta_right c_trial_ta_parent : Nat → Int32} {c_trial_ta_span : Nat → Int64} {c_trial_ta_root : Int32} {c_trial_ta_digest c_trial_ta_height c_trial_ta_priority : Nat → Int32} {c_trial_ta_pricedBy : Int32} {c_trial_ta_open : Nat → Int32} {c_trial_after_keys : Nat → Int64} {c_trial_after_seed : Int32} {c_trial_before_keys : Nat → Int64} {c_trial_before_seed c_trial_acts c_trial_whyNot c_trial_work c_trial_alikeAct c_trial_alikePair : Int32} {l1 : Int32} {l2 : Int32} {l3 : Int32} {R : Int32} (h : f_X7_differs c_now_keys l1 l2 l3 = some R) : Ret1 l E yX7_differs cX7_differs 4 (some .int) 3 (wX7 E a o c_now_keys c_now_seed c_drawn_keys c_drawn_seed c_pad_signs c_pad_count c_sights_count c_sights_seeds c_img0_kept c_img0_world_keys c_img0_world_seed c_img0_sights_count c_img0_sights_seeds c_img1_kept c_img1_world_keys c_img1_world_seed c_img1_sights_count c_img1_sights_seeds c_trial_act_kind c_trial_act_set c_trial_act_key c_trial_act_other c_trial_tb_left c_trial_tb_right c_trial_tb_parent c_trial_tb_span c_trial_tb_root c_trial_tb_digest c_trial_tb_height c_trial_tb_priority c_trial_tb_pricedBy c_trial_tb_open c_trial_ta_left c_trial_ta_right c_trial_ta_parent c_trial_ta_span c_trial_ta_root c_trial_ta_digest c_trial_ta_height c_trial_ta_priority c_trial_ta_pricedBy c_trial_ta_open c_trial_after_keys c_trial_after_seed c_trial_before_keys c_trial_before_seed c_trial_acts c_trial_whyNot c_trial_work c_trial_alikeAct c_trial_alikePair) [.ref (a o), .int l1, .int l2, .int l3] (some (.int R)) (wX7 E a o c_now_keys c_now_seed c_drawn_keys c_drawn_seed c_pad_signs c_pad_count c_sights_count c_sights_seeds c_img0_kept c_img0_world_keys c_img0_world_seed c_img0_sights_count c_img0_sights_seeds c_img1_kept c_img1_world_keys c_img1_world_seed c_img1_sights_count c_img1_sights_seeds c_trial_act_kind c_trial_act_set c_trial_act_key c_trial_act_other c_trial_tb_left c_trial_tb_right c_trial_tb_parent c_trial_tb_span c_trial_tb_root c_trial_tb_digest c_trial_tb_height c_trial_tb_priority c_trial_tb_pricedBy c_trial_tb_open c_trial_ta_left c_trial_ta_right c_trial_ta_parent c_trial_ta_span c_trial_ta_root c_trial_ta_digest c_trial_ta_height c_trial_ta_priority c_trial_ta_pricedBy c_trial_ta_open c_trial_after_keys c_trial_after_seed c_trial_before_keys c_trial_before_seed c_trial_acts c_trial_whyNot c_trial_work c_trial_alikeAct c_trial_alikePair) := by
  refine Ret.intro (lv := [(0, .ref (a o)), (1, .int l1), (2, .int l2), (3, .int l3)]) (by decide) (Nat.le_of_ble_eq_true rfl) rfl ?_
  intro g hgl G hQ
  subst hgl
  rw [f_X7_differs] at h
  refine w_iload_n (pc2 := 1) G 1 rfl dX7_differs_0 rfl rfl ?_
  obtain ⟨x1, H_x1, h⟩ := bs h
  refine w_cS0 (pc2 := 4) (As := [.int l1]) (rest := []) G koX7_73 (r_X7_isSet H_x1) (Nat.le_of_ble_eq_true rfl) rfl rfl (Nat.le_of_ble_eq_true rfl) ⟨Nat.zero_le _, Nat.zero_le _⟩ dX7_differs_1 rfl rfl ?_
  refine w_if_eq (tgt := 14) (pc2 := 7) G dX7_differs_4 (by decide) rfl (fun cc => ?_) (fun cc => ?_)
  · replace h := (if_pos cc).symm.trans h
    refine w_iconst (pc2 := 15) G dX7_differs_14 k_iconst_m1 rfl ?_
    cases h
    exact w_iret G hQ rfl ⟨rfl, rfl⟩ dX7_differs_15
  · replace h := (if_neg cc).symm.trans h
    refine w_iload_n (pc2 := 8) G 2 rfl dX7_differs_7 rfl rfl ?_
    obtain ⟨x2, H_x2, h⟩ := bs h
    refine w_cS0 (pc2 := 11) (As := [.int l2]) (rest := []) G koX7_73 (r_X7_isSet H_x2) (Nat.le_of_ble_eq_true rfl) rfl rfl (Nat.le_of_ble_eq_true rfl) ⟨Nat.zero_le _, Nat.zero_le _⟩ dX7_differs_8 rfl rfl ?_
    refine w_if_ne (tgt := 16) (pc2 := 14) G dX7_differs_11 (by decide) rfl (fun cc => ?_) (fun cc => ?_)
    · replace h := (if_neg cc).symm.trans h
      refine w_aload_n (pc2 := 17) G 0 rfl dX7_differs_16 rfl rfl ?_
      refine w_get (pc2 := 20) G foX7_10 0 rfl rfl dX7_differs_17 rfl ?_
      refine w_get (pc2 := 23) G foX7_79 1 rfl rfl dX7_differs_20 rfl ?_
      refine w_iload_n (pc2 := 24) G 1 rfl dX7_differs_23 rfl rfl ?_
      obtain ⟨v3, H_v3, h⟩ := bs h
      refine w_laldo (pc2 := 25) G 2 rfl H_v3 dX7_differs_24 rfl ?_
      refine w_aload_n (pc2 := 26) G 0 rfl dX7_differs_25 rfl rfl ?_
      refine w_get (pc2 := 29) G foX7_10 0 rfl rfl dX7_differs_26 rfl ?_
      refine w_get (pc2 := 32) G foX7_79 1 rfl rfl dX7_differs_29 rfl ?_
      refine w_iload_n (pc2 := 33) G 2 rfl dX7_differs_32 rfl rfl ?_
      obtain ⟨v4, H_v4, h⟩ := bs h
      refine w_laldo (pc2 := 34) G 2 rfl H_v4 dX7_differs_33 rfl ?_
      refine w_lxor (pc2 := 35) G dX7_differs_34 rfl ?_
      refine w_iload_n (pc2 := 36) G 3 rfl dX7_differs_35 rfl rfl ?_
      obtain ⟨x5, H_x5, h⟩ := bs h
      refine w_cS0 (pc2 := 39) (As := [.long (v3 ^^^ v4), .int l3]) (rest := []) G koX7_177 (r_X7_pick H_x5) (Nat.le_of_ble_eq_true rfl) rfl rfl (Nat.le_of_ble_eq_true rfl) ⟨Nat.zero_le _, Nat.zero_le _⟩ dX7_differs_36 rfl rfl ?_
      cases h
      exact w_iret G hQ rfl ⟨rfl, rfl⟩ dX7_differs_39
    · replace h := (if_pos cc).symm.trans h
      refine w_iconst (pc2 := 15) G dX7_differs_14 k_iconst_m1 rfl ?_
      cases h
      exact w_iret G hQ rfl ⟨rfl, rfl⟩ dX7_differs_15

set_option maxHeartbeats 4000000 in
set_option maxRecDepth 100000 in
theorem r_X7_above {l : Launch} {E : EV} {a : Nat → Nat} {o : Nat} {c_now_keys : Nat → Int64} {c_now_seed : Int32} {c_drawn_keys : Nat → Int64} {c_drawn_seed : Int32} {c_pad_signs : Nat → Int32} {c_pad_count c_sights_count : Int32} {c_sights_seeds : Nat → Int64} {c_img0_kept : Int32} {c_img0_world_keys : Nat → Int64} {c_img0_world_seed c_img0_sights_count : Int32} {c_img0_sights_seeds : Nat → Int64} {c_img1_kept : Int32} {c_img1_world_keys : Nat → Int64} {c_img1_world_seed c_img1_sights_count : Int32} {c_img1_sights_seeds : Nat → Int64} {c_trial_act_kind c_trial_act_set c_trial_act_key c_trial_act_other : Int32} {c_trial_tb_left c_trial_tb_right c_trial_tb_parent : Nat → Int32} {c_trial_tb_span : Nat → Int64} {c_trial_tb_root : Int32} {c_trial_tb_digest c_trial_tb_height c_trial_tb_priority : Nat → Int32} {c_trial_tb_pricedBy : Int32} {c_trial_tb_open c_trial_ta_left c_trial_ta_right c_trial_ta_parent : Nat → Int32} {c_trial_ta_span : Nat → Int64} {c_trial_ta_root : Int32} {c_trial_ta_digest c_trial_ta_height c_trial_ta_priority : Nat → Int32} {c_trial_ta_pricedBy : Int32} {c_trial_ta_open : Nat → Int32} {c_trial_after_keys : Nat → Int64} {c_trial_after_seed : Int32} {c_trial_before_keys : Nat → Int64} {c_trial_before_seed c_trial_acts c_trial_whyNot c_trial_work c_trial_alikeAct c_trial_alikePair : Int32} {l1 : Int32} {l2 : Int32} {R : Int32 × Int32 × (Nat → Int64)} (h : f_X7_above c_sights_count c_sights_seeds l1 l2 = some R) : Ret1 l E yX7_above cX7_above 3 (some .int) 3 (wX7 E a o c_now_keys c_now_seed c_drawn_keys c_drawn_seed c_pad_signs c_pad_count c_sights_count c_sights_seeds c_img0_kept c_img0_world_keys c_img0_world_seed c_img0_sights_count c_img0_sights_seeds c_img1_kept c_img1_world_keys c_img1_world_seed c_img1_sights_count c_img1_sights_seeds c_trial_act_kind c_trial_act_set c_trial_act_key c_trial_act_other c_trial_tb_left c_trial_tb_right c_trial_tb_parent c_trial_tb_span c_trial_tb_root c_trial_tb_digest c_trial_tb_height c_trial_tb_priority c_trial_tb_pricedBy c_trial_tb_open c_trial_ta_left c_trial_ta_right c_trial_ta_parent c_trial_ta_span c_trial_ta_root c_trial_ta_digest c_trial_ta_height c_trial_ta_priority c_trial_ta_pricedBy c_trial_ta_open c_trial_after_keys c_trial_after_seed c_trial_before_keys c_trial_before_seed c_trial_acts c_trial_whyNot c_trial_work c_trial_alikeAct c_trial_alikePair) [.ref (a o), .int l1, .int l2] (some (.int R.1)) (wX7 E a o c_now_keys c_now_seed c_drawn_keys c_drawn_seed c_pad_signs c_pad_count R.2.1 R.2.2 c_img0_kept c_img0_world_keys c_img0_world_seed c_img0_sights_count c_img0_sights_seeds c_img1_kept c_img1_world_keys c_img1_world_seed c_img1_sights_count c_img1_sights_seeds c_trial_act_kind c_trial_act_set c_trial_act_key c_trial_act_other c_trial_tb_left c_trial_tb_right c_trial_tb_parent c_trial_tb_span c_trial_tb_root c_trial_tb_digest c_trial_tb_height c_trial_tb_priority c_trial_tb_pricedBy c_trial_tb_open c_trial_ta_left c_trial_ta_right c_trial_ta_parent c_trial_ta_span c_trial_ta_root c_trial_ta_digest c_trial_ta_height c_trial_ta_priority c_trial_ta_pricedBy c_trial_ta_open c_trial_after_keys c_trial_after_seed c_trial_before_keys c_trial_before_seed c_trial_acts c_trial_whyNot c_trial_work c_trial_alikeAct c_trial_alikePair) := by
  refine Ret.intro (lv := [(0, .ref (a o)), (1, .int l1), (2, .int l2)]) (by decide) (Nat.le_of_ble_eq_true rfl) rfl ?_
  intro g hgl G hQ
  subst hgl
  rw [f_X7_above] at h
  refine w_iload_n (pc2 := 1) G 1 rfl dX7_above_0 rfl rfl ?_
  obtain ⟨x1, H_x1, h⟩ := bs h
  refine w_cS0 (pc2 := 4) (As := [.int l1]) (rest := []) G koX7_76 (r_X7_isKey H_x1) (Nat.le_of_ble_eq_true rfl) rfl rfl (Nat.le_of_ble_eq_true rfl) ⟨Nat.zero_le _, Nat.zero_le _⟩ dX7_above_1 rfl rfl ?_
  refine w_if_eq (tgt := 14) (pc2 := 7) G dX7_above_4 (by decide) rfl (fun cc => ?_) (fun cc => ?_)
  · replace h := (if_pos cc).symm.trans h
    refine w_iconst (pc2 := 15) G dX7_above_14 k_iconst_m1 rfl ?_
    cases h
    exact w_iret G hQ rfl ⟨rfl, rfl⟩ dX7_above_15
  · replace h := (if_neg cc).symm.trans h
    refine w_iload_n (pc2 := 8) G 2 rfl dX7_above_7 rfl rfl ?_
    obtain ⟨x2, H_x2, h⟩ := bs h
    refine w_cS0 (pc2 := 11) (As := [.int l2]) (rest := []) G koX7_76 (r_X7_isKey H_x2) (Nat.le_of_ble_eq_true rfl) rfl rfl (Nat.le_of_ble_eq_true rfl) ⟨Nat.zero_le _, Nat.zero_le _⟩ dX7_above_8 rfl rfl ?_
    refine w_if_ne (tgt := 16) (pc2 := 14) G dX7_above_11 (by decide) rfl (fun cc => ?_) (fun cc => ?_)
    · replace h := (if_neg cc).symm.trans h
      refine w_iload_n (pc2 := 17) G 1 rfl dX7_above_16 rfl rfl ?_
      refine w_iload_n (pc2 := 18) G 2 rfl dX7_above_17 rfl rfl ?_
      refine w_icmp_ne (tgt := 24) (pc2 := 21) G dX7_above_18 (by decide) rfl (fun cc => ?_) (fun cc => ?_)
      · replace h := (if_neg cc).symm.trans h
        refine w_aload_n (pc2 := 25) G 0 rfl dX7_above_24 rfl rfl ?_
        refine w_get (pc2 := 28) G foX7_29 0 rfl rfl dX7_above_25 rfl ?_
        refine w_iload_n (pc2 := 29) G 1 rfl dX7_above_28 rfl rfl ?_
        refine w_iload_n (pc2 := 30) G 2 rfl dX7_above_29 rfl rfl ?_
        obtain ⟨x3, H_x3, h⟩ := bs h
        refine w_cV1 (pc2 := 33) (ws2 := (wX7 E a o c_now_keys c_now_seed c_drawn_keys c_drawn_seed c_pad_signs c_pad_count x3.2.1 x3.2.2 c_img0_kept c_img0_world_keys c_img0_world_seed c_img0_sights_count c_img0_sights_seeds c_img1_kept c_img1_world_keys c_img1_world_seed c_img1_sights_count c_img1_sights_seeds c_trial_act_kind c_trial_act_set c_trial_act_key c_trial_act_other c_trial_tb_left c_trial_tb_right c_trial_tb_parent c_trial_tb_span c_trial_tb_root c_trial_tb_digest c_trial_tb_height c_trial_tb_priority c_trial_tb_pricedBy c_trial_tb_open c_trial_ta_left c_trial_ta_right c_trial_ta_parent c_trial_ta_span c_trial_ta_root c_trial_ta_digest c_trial_ta_height c_trial_ta_priority c_trial_ta_pricedBy c_trial_ta_open c_trial_after_keys c_trial_after_seed c_trial_before_keys c_trial_before_seed c_trial_acts c_trial_whyNot c_trial_work c_trial_alikeAct c_trial_alikePair)) (As := [.int l1, .int l2]) (rest := []) G koX7_196 (r_X3_add (o := (o + 7)) H_x3) (Nat.le_of_ble_eq_true rfl) 3 rfl rfl [7, 8] [0, 1, 2, 3, 4, 5, 6, 9, 10, 11, 12, 13, 14, 15, 16, 17, 18, 19, 20, 21, 22, 23, 24, 25, 26, 27, 28, 29, 30, 31, 32, 33, 34, 35, 36, 37, 38, 39, 40, 41, 42, 43] [0, 1, 2, 3, 4, 5, 6, 42, 43, 7, 8, 9, 10, 11, 12, 13, 14, 15, 16, 17, 18, 19, 20, 21, 22, 23, 24, 25, 26, 27, 28, 29, 30, 31, 32, 33, 34, 35, 36, 37, 38, 39, 40, 41] rfl rfl rfl rfl rfl rfl rfl rfl rfl (Nat.le_of_ble_eq_true rfl) ⟨Nat.zero_le _, Nat.zero_le _⟩ dX7_above_30 rfl rfl ?_
        refine w_if_eq (tgt := 46) (pc2 := 36) G dX7_above_33 (by decide) rfl (fun cc => ?_) (fun cc => ?_)
        · replace h := (if_pos cc).symm.trans h
          refine w_bipush (pc2 := 48) G dX7_above_46 k_bipush_m4 rfl ?_
          cases h
          exact w_iret G hQ rfl ⟨rfl, rfl⟩ dX7_above_48
        · replace h := (if_neg cc).symm.trans h
          refine w_aload_n (pc2 := 37) G 0 rfl dX7_above_36 rfl rfl ?_
          refine w_get (pc2 := 40) G foX7_29 0 rfl rfl dX7_above_37 rfl ?_
          refine w_get (pc2 := 43) G foX7_200 7 rfl rfl dX7_above_40 rfl ?_
          refine w_goto (tgt := 48) G dX7_above_43 (by decide) ?_
          cases h
          exact w_iret G hQ rfl ⟨rfl, rfl⟩ dX7_above_48
      · replace h := (if_pos cc).symm.trans h
        refine w_bipush (pc2 := 23) G dX7_above_21 k_bipush_m2 rfl ?_
        cases h
        exact w_iret G hQ rfl ⟨rfl, rfl⟩ dX7_above_23
    · replace h := (if_pos cc).symm.trans h
      refine w_iconst (pc2 := 15) G dX7_above_14 k_iconst_m1 rfl ?_
      cases h
      exact w_iret G hQ rfl ⟨rfl, rfl⟩ dX7_above_15

set_option maxHeartbeats 4000000 in
set_option maxRecDepth 100000 in
theorem r_X7_forget {l : Launch} {E : EV} {a : Nat → Nat} {o : Nat} {c_now_keys : Nat → Int64} {c_now_seed : Int32} {c_drawn_keys : Nat → Int64} {c_drawn_seed : Int32} {c_pad_signs : Nat → Int32} {c_pad_count c_sights_count : Int32} {c_sights_seeds : Nat → Int64} {c_img0_kept : Int32} {c_img0_world_keys : Nat → Int64} {c_img0_world_seed c_img0_sights_count : Int32} {c_img0_sights_seeds : Nat → Int64} {c_img1_kept : Int32} {c_img1_world_keys : Nat → Int64} {c_img1_world_seed c_img1_sights_count : Int32} {c_img1_sights_seeds : Nat → Int64} {c_trial_act_kind c_trial_act_set c_trial_act_key c_trial_act_other : Int32} {c_trial_tb_left c_trial_tb_right c_trial_tb_parent : Nat → Int32} {c_trial_tb_span : Nat → Int64} {c_trial_tb_root : Int32} {c_trial_tb_digest c_trial_tb_height c_trial_tb_priority : Nat → Int32} {c_trial_tb_pricedBy : Int32} {c_trial_tb_open c_trial_ta_left c_trial_ta_right c_trial_ta_parent : Nat → Int32} {c_trial_ta_span : Nat → Int64} {c_trial_ta_root : Int32} {c_trial_ta_digest c_trial_ta_height c_trial_ta_priority : Nat → Int32} {c_trial_ta_pricedBy : Int32} {c_trial_ta_open : Nat → Int32} {c_trial_after_keys : Nat → Int64} {c_trial_after_seed : Int32} {c_trial_before_keys : Nat → Int64} {c_trial_before_seed c_trial_acts c_trial_whyNot c_trial_work c_trial_alikeAct c_trial_alikePair : Int32}  {R : Int32 × Int32 × (Nat → Int64)} (h : f_X7_forget c_sights_count c_sights_seeds = some R) : Ret1 l E yX7_forget cX7_forget 2 (some .int) 2 (wX7 E a o c_now_keys c_now_seed c_drawn_keys c_drawn_seed c_pad_signs c_pad_count c_sights_count c_sights_seeds c_img0_kept c_img0_world_keys c_img0_world_seed c_img0_sights_count c_img0_sights_seeds c_img1_kept c_img1_world_keys c_img1_world_seed c_img1_sights_count c_img1_sights_seeds c_trial_act_kind c_trial_act_set c_trial_act_key c_trial_act_other c_trial_tb_left c_trial_tb_right c_trial_tb_parent c_trial_tb_span c_trial_tb_root c_trial_tb_digest c_trial_tb_height c_trial_tb_priority c_trial_tb_pricedBy c_trial_tb_open c_trial_ta_left c_trial_ta_right c_trial_ta_parent c_trial_ta_span c_trial_ta_root c_trial_ta_digest c_trial_ta_height c_trial_ta_priority c_trial_ta_pricedBy c_trial_ta_open c_trial_after_keys c_trial_after_seed c_trial_before_keys c_trial_before_seed c_trial_acts c_trial_whyNot c_trial_work c_trial_alikeAct c_trial_alikePair) [.ref (a o)] (some (.int R.1)) (wX7 E a o c_now_keys c_now_seed c_drawn_keys c_drawn_seed c_pad_signs c_pad_count R.2.1 R.2.2 c_img0_kept c_img0_world_keys c_img0_world_seed c_img0_sights_count c_img0_sights_seeds c_img1_kept c_img1_world_keys c_img1_world_seed c_img1_sights_count c_img1_sights_seeds c_trial_act_kind c_trial_act_set c_trial_act_key c_trial_act_other c_trial_tb_left c_trial_tb_right c_trial_tb_parent c_trial_tb_span c_trial_tb_root c_trial_tb_digest c_trial_tb_height c_trial_tb_priority c_trial_tb_pricedBy c_trial_tb_open c_trial_ta_left c_trial_ta_right c_trial_ta_parent c_trial_ta_span c_trial_ta_root c_trial_ta_digest c_trial_ta_height c_trial_ta_priority c_trial_ta_pricedBy c_trial_ta_open c_trial_after_keys c_trial_after_seed c_trial_before_keys c_trial_before_seed c_trial_acts c_trial_whyNot c_trial_work c_trial_alikeAct c_trial_alikePair) := by
  refine Ret.intro (lv := [(0, .ref (a o))]) (by decide) (Nat.le_of_ble_eq_true rfl) rfl ?_
  intro g hgl G hQ
  subst hgl
  rw [f_X7_forget] at h
  refine w_aload_n (pc2 := 1) G 0 rfl dX7_forget_0 rfl rfl ?_
  refine w_get (pc2 := 4) G foX7_29 0 rfl rfl dX7_forget_1 rfl ?_
  refine w_get (pc2 := 7) G foX7_200 7 rfl rfl dX7_forget_4 rfl ?_
  refine w_istore_n (pc2 := 8) (lv2 := [(1, .int c_sights_count), (0, .ref (a o))]) G dX7_forget_7 rfl (Nat.le_of_ble_eq_true rfl) rfl rfl ?_
  refine w_aload_n (pc2 := 9) G 1 rfl dX7_forget_8 rfl rfl ?_
  refine w_get (pc2 := 12) G foX7_29 0 rfl rfl dX7_forget_9 rfl ?_
  obtain ⟨x1, H_x1, h⟩ := bs h
  refine w_cV1 (pc2 := 15) (ws2 := (wX7 E a o c_now_keys c_now_seed c_drawn_keys c_drawn_seed c_pad_signs c_pad_count x1.1 x1.2 c_img0_kept c_img0_world_keys c_img0_world_seed c_img0_sights_count c_img0_sights_seeds c_img1_kept c_img1_world_keys c_img1_world_seed c_img1_sights_count c_img1_sights_seeds c_trial_act_kind c_trial_act_set c_trial_act_key c_trial_act_other c_trial_tb_left c_trial_tb_right c_trial_tb_parent c_trial_tb_span c_trial_tb_root c_trial_tb_digest c_trial_tb_height c_trial_tb_priority c_trial_tb_pricedBy c_trial_tb_open c_trial_ta_left c_trial_ta_right c_trial_ta_parent c_trial_ta_span c_trial_ta_root c_trial_ta_digest c_trial_ta_height c_trial_ta_priority c_trial_ta_pricedBy c_trial_ta_open c_trial_after_keys c_trial_after_seed c_trial_before_keys c_trial_before_seed c_trial_acts c_trial_whyNot c_trial_work c_trial_alikeAct c_trial_alikePair)) (As := []) (rest := []) G koX7_201 (r_X3_clear (o := (o + 7)) H_x1) (Nat.le_of_ble_eq_true rfl) 3 rfl rfl [7, 8] [0, 1, 2, 3, 4, 5, 6, 9, 10, 11, 12, 13, 14, 15, 16, 17, 18, 19, 20, 21, 22, 23, 24, 25, 26, 27, 28, 29, 30, 31, 32, 33, 34, 35, 36, 37, 38, 39, 40, 41, 42, 43] [0, 1, 2, 3, 4, 5, 6, 42, 43, 7, 8, 9, 10, 11, 12, 13, 14, 15, 16, 17, 18, 19, 20, 21, 22, 23, 24, 25, 26, 27, 28, 29, 30, 31, 32, 33, 34, 35, 36, 37, 38, 39, 40, 41] rfl rfl rfl rfl rfl rfl rfl rfl rfl (Nat.le_of_ble_eq_true rfl) ⟨Nat.zero_le _, Nat.zero_le _⟩ dX7_forget_12 rfl rfl ?_
  refine w_iload_n (pc2 := 16) G 0 rfl dX7_forget_15 rfl rfl ?_
  cases h
  exact w_iret G hQ rfl ⟨rfl, rfl⟩ dX7_forget_16

set_option maxHeartbeats 4000000 in
set_option maxRecDepth 100000 in
theorem r_X7_seeds {l : Launch} {E : EV} {a : Nat → Nat} {o : Nat} {c_now_keys : Nat → Int64} {c_now_seed : Int32} {c_drawn_keys : Nat → Int64} {c_drawn_seed : Int32} {c_pad_signs : Nat → Int32} {c_pad_count c_sights_count : Int32} {c_sights_seeds : Nat → Int64} {c_img0_kept : Int32} {c_img0_world_keys : Nat → Int64} {c_img0_world_seed c_img0_sights_count : Int32} {c_img0_sights_seeds : Nat → Int64} {c_img1_kept : Int32} {c_img1_world_keys : Nat → Int64} {c_img1_world_seed c_img1_sights_count : Int32} {c_img1_sights_seeds : Nat → Int64} {c_trial_act_kind c_trial_act_set c_trial_act_key c_trial_act_other : Int32} {c_trial_tb_left c_trial_tb_right c_trial_tb_parent : Nat → Int32} {c_trial_tb_span : Nat → Int64} {c_trial_tb_root : Int32} {c_trial_tb_digest c_trial_tb_height c_trial_tb_priority : Nat → Int32} {c_trial_tb_pricedBy : Int32} {c_trial_tb_open c_trial_ta_left c_trial_ta_right c_trial_ta_parent : Nat → Int32} {c_trial_ta_span : Nat → Int64} {c_trial_ta_root : Int32} {c_trial_ta_digest c_trial_ta_height c_trial_ta_priority : Nat → Int32} {c_trial_ta_pricedBy : Int32} {c_trial_ta_open : Nat → Int32} {c_trial_after_keys : Nat → Int64} {c_trial_after_seed : Int32} {c_trial_before_keys : Nat → Int64} {c_trial_before_seed c_trial_acts c_trial_whyNot c_trial_work c_trial_alikeAct c_trial_alikePair : Int32} {l1 : Int32} {R : Int32} (h : f_X7_seeds c_sights_seeds l1 = some R) : Ret1 l E yX7_seeds cX7_seeds 2 (some .int) 2 (wX7 E a o c_now_keys c_now_seed c_drawn_keys c_drawn_seed c_pad_signs c_pad_count c_sights_count c_sights_seeds c_img0_kept c_img0_world_keys c_img0_world_seed c_img0_sights_count c_img0_sights_seeds c_img1_kept c_img1_world_keys c_img1_world_seed c_img1_sights_count c_img1_sights_seeds c_trial_act_kind c_trial_act_set c_trial_act_key c_trial_act_other c_trial_tb_left c_trial_tb_right c_trial_tb_parent c_trial_tb_span c_trial_tb_root c_trial_tb_digest c_trial_tb_height c_trial_tb_priority c_trial_tb_pricedBy c_trial_tb_open c_trial_ta_left c_trial_ta_right c_trial_ta_parent c_trial_ta_span c_trial_ta_root c_trial_ta_digest c_trial_ta_height c_trial_ta_priority c_trial_ta_pricedBy c_trial_ta_open c_trial_after_keys c_trial_after_seed c_trial_before_keys c_trial_before_seed c_trial_acts c_trial_whyNot c_trial_work c_trial_alikeAct c_trial_alikePair) [.ref (a o), .int l1] (some (.int R)) (wX7 E a o c_now_keys c_now_seed c_drawn_keys c_drawn_seed c_pad_signs c_pad_count c_sights_count c_sights_seeds c_img0_kept c_img0_world_keys c_img0_world_seed c_img0_sights_count c_img0_sights_seeds c_img1_kept c_img1_world_keys c_img1_world_seed c_img1_sights_count c_img1_sights_seeds c_trial_act_kind c_trial_act_set c_trial_act_key c_trial_act_other c_trial_tb_left c_trial_tb_right c_trial_tb_parent c_trial_tb_span c_trial_tb_root c_trial_tb_digest c_trial_tb_height c_trial_tb_priority c_trial_tb_pricedBy c_trial_tb_open c_trial_ta_left c_trial_ta_right c_trial_ta_parent c_trial_ta_span c_trial_ta_root c_trial_ta_digest c_trial_ta_height c_trial_ta_priority c_trial_ta_pricedBy c_trial_ta_open c_trial_after_keys c_trial_after_seed c_trial_before_keys c_trial_before_seed c_trial_acts c_trial_whyNot c_trial_work c_trial_alikeAct c_trial_alikePair) := by
  refine Ret.intro (lv := [(0, .ref (a o)), (1, .int l1)]) (by decide) (Nat.le_of_ble_eq_true rfl) rfl ?_
  intro g hgl G hQ
  subst hgl
  rw [f_X7_seeds] at h
  refine w_iload_n (pc2 := 1) G 1 rfl dX7_seeds_0 rfl rfl ?_
  refine w_iconst (pc2 := 2) G dX7_seeds_1 k_iconst_m1 rfl ?_
  refine w_icmp_ne (tgt := 15) (pc2 := 5) G dX7_seeds_2 (by decide) rfl (fun cc => ?_) (fun cc => ?_)
  · replace h := (if_neg cc).symm.trans h
    refine w_aload_n (pc2 := 16) G 0 rfl dX7_seeds_15 rfl rfl ?_
    refine w_get (pc2 := 19) G foX7_29 0 rfl rfl dX7_seeds_16 rfl ?_
    refine w_iload_n (pc2 := 20) G 1 rfl dX7_seeds_19 rfl rfl ?_
    obtain ⟨x1, H_x1, h⟩ := bs h
    refine w_cV1 (pc2 := 23) (ws2 := (wX7 E a o c_now_keys c_now_seed c_drawn_keys c_drawn_seed c_pad_signs c_pad_count c_sights_count c_sights_seeds c_img0_kept c_img0_world_keys c_img0_world_seed c_img0_sights_count c_img0_sights_seeds c_img1_kept c_img1_world_keys c_img1_world_seed c_img1_sights_count c_img1_sights_seeds c_trial_act_kind c_trial_act_set c_trial_act_key c_trial_act_other c_trial_tb_left c_trial_tb_right c_trial_tb_parent c_trial_tb_span c_trial_tb_root c_trial_tb_digest c_trial_tb_height c_trial_tb_priority c_trial_tb_pricedBy c_trial_tb_open c_trial_ta_left c_trial_ta_right c_trial_ta_parent c_trial_ta_span c_trial_ta_root c_trial_ta_digest c_trial_ta_height c_trial_ta_priority c_trial_ta_pricedBy c_trial_ta_open c_trial_after_keys c_trial_after_seed c_trial_before_keys c_trial_before_seed c_trial_acts c_trial_whyNot c_trial_work c_trial_alikeAct c_trial_alikePair)) (As := [.int l1]) (rest := []) G koX7_205 (r_X3_pickSeed (o := (o + 7)) H_x1) (Nat.le_of_ble_eq_true rfl) 3 rfl rfl [7, 8] [0, 1, 2, 3, 4, 5, 6, 9, 10, 11, 12, 13, 14, 15, 16, 17, 18, 19, 20, 21, 22, 23, 24, 25, 26, 27, 28, 29, 30, 31, 32, 33, 34, 35, 36, 37, 38, 39, 40, 41, 42, 43] [0, 1, 2, 3, 4, 5, 6, 42, 43, 7, 8, 9, 10, 11, 12, 13, 14, 15, 16, 17, 18, 19, 20, 21, 22, 23, 24, 25, 26, 27, 28, 29, 30, 31, 32, 33, 34, 35, 36, 37, 38, 39, 40, 41] rfl rfl rfl rfl rfl rfl rfl rfl rfl (Nat.le_of_ble_eq_true rfl) ⟨Nat.zero_le _, Nat.zero_le _⟩ dX7_seeds_20 rfl rfl ?_
    cases h
    exact w_iret G hQ rfl ⟨rfl, rfl⟩ dX7_seeds_23
  · replace h := (if_pos cc).symm.trans h
    refine w_aload_n (pc2 := 6) G 0 rfl dX7_seeds_5 rfl rfl ?_
    refine w_get (pc2 := 9) G foX7_29 0 rfl rfl dX7_seeds_6 rfl ?_
    obtain ⟨x2, H_x2, h⟩ := bs h
    refine w_cV1 (pc2 := 12) (ws2 := (wX7 E a o c_now_keys c_now_seed c_drawn_keys c_drawn_seed c_pad_signs c_pad_count c_sights_count c_sights_seeds c_img0_kept c_img0_world_keys c_img0_world_seed c_img0_sights_count c_img0_sights_seeds c_img1_kept c_img1_world_keys c_img1_world_seed c_img1_sights_count c_img1_sights_seeds c_trial_act_kind c_trial_act_set c_trial_act_key c_trial_act_other c_trial_tb_left c_trial_tb_right c_trial_tb_parent c_trial_tb_span c_trial_tb_root c_trial_tb_digest c_trial_tb_height c_trial_tb_priority c_trial_tb_pricedBy c_trial_tb_open c_trial_ta_left c_trial_ta_right c_trial_ta_parent c_trial_ta_span c_trial_ta_root c_trial_ta_digest c_trial_ta_height c_trial_ta_priority c_trial_ta_pricedBy c_trial_ta_open c_trial_after_keys c_trial_after_seed c_trial_before_keys c_trial_before_seed c_trial_acts c_trial_whyNot c_trial_work c_trial_alikeAct c_trial_alikePair)) (As := []) (rest := []) G koX7_202 (r_X3_countSeeds (o := (o + 7)) H_x2) (Nat.le_of_ble_eq_true rfl) 3 rfl rfl [7, 8] [0, 1, 2, 3, 4, 5, 6, 9, 10, 11, 12, 13, 14, 15, 16, 17, 18, 19, 20, 21, 22, 23, 24, 25, 26, 27, 28, 29, 30, 31, 32, 33, 34, 35, 36, 37, 38, 39, 40, 41, 42, 43] [0, 1, 2, 3, 4, 5, 6, 42, 43, 7, 8, 9, 10, 11, 12, 13, 14, 15, 16, 17, 18, 19, 20, 21, 22, 23, 24, 25, 26, 27, 28, 29, 30, 31, 32, 33, 34, 35, 36, 37, 38, 39, 40, 41] rfl rfl rfl rfl rfl rfl rfl rfl rfl (Nat.le_of_ble_eq_true rfl) ⟨Nat.zero_le _, Nat.zero_le _⟩ dX7_seeds_9 rfl rfl ?_
    refine w_goto (tgt := 23) G dX7_seeds_12 (by decide) ?_
    cases h
    exact w_iret G hQ rfl ⟨rfl, rfl⟩ dX7_seeds_23

set_option maxHeartbeats 4000000 in
set_option maxRecDepth 100000 in
theorem lp_X7_orders_39 {g : CX} {E : EV} {a : Nat → Nat} {o : Nat} {c_now_keys : Nat → Int64} {c_now_seed : Int32} {c_drawn_keys : Nat → Int64} {c_drawn_seed : Int32} {c_pad_signs : Nat → Int32} {c_pad_count c_sights_count : Int32} {c_sights_seeds : Nat → Int64} {c_img0_kept : Int32} {c_img0_world_keys : Nat → Int64} {c_img0_world_seed c_img0_sights_count : Int32} {c_img0_sights_seeds : Nat → Int64} {c_img1_kept : Int32} {c_img1_world_keys : Nat → Int64} {c_img1_world_seed c_img1_sights_count : Int32} {c_img1_sights_seeds : Nat → Int64} {c_trial_act_kind c_trial_act_set c_trial_act_key c_trial_act_other : Int32} {c_trial_tb_left c_trial_tb_right c_trial_tb_parent : Nat → Int32} {c_trial_tb_span : Nat → Int64} {c_trial_tb_root : Int32} {c_trial_tb_digest c_trial_tb_height c_trial_tb_priority : Nat → Int32} {c_trial_tb_pricedBy : Int32} {c_trial_tb_open c_trial_ta_left c_trial_ta_right c_trial_ta_parent : Nat → Int32} {c_trial_ta_span : Nat → Int64} {c_trial_ta_root : Int32} {c_trial_ta_digest c_trial_ta_height c_trial_ta_priority : Nat → Int32} {c_trial_ta_pricedBy : Int32} {c_trial_ta_open : Nat → Int32} {c_trial_after_keys : Nat → Int64} {c_trial_after_seed : Int32} {c_trial_before_keys : Nat → Int64} {c_trial_before_seed c_trial_acts c_trial_whyNot c_trial_work c_trial_alikeAct c_trial_alikePair : Int32} {l1 : Int32} (G : GG g E RX7 cX7_orders 7 (some .long) 3 0 0) : ∀ (n : Nat) (l2 : Int32) (l3 : Int64) (l5 : Int32) (R : Int64), L_X7_orders_39 n l2 l3 l5 = some R → WW g E 7 0 0 (wX7 E a o c_now_keys c_now_seed c_drawn_keys c_drawn_seed c_pad_signs c_pad_count c_sights_count c_sights_seeds c_img0_kept c_img0_world_keys c_img0_world_seed c_img0_sights_count c_img0_sights_seeds c_img1_kept c_img1_world_keys c_img1_world_seed c_img1_sights_count c_img1_sights_seeds c_trial_act_kind c_trial_act_set c_trial_act_key c_trial_act_other c_trial_tb_left c_trial_tb_right c_trial_tb_parent c_trial_tb_span c_trial_tb_root c_trial_tb_digest c_trial_tb_height c_trial_tb_priority c_trial_tb_pricedBy c_trial_tb_open c_trial_ta_left c_trial_ta_right c_trial_ta_parent c_trial_ta_span c_trial_ta_root c_trial_ta_digest c_trial_ta_height c_trial_ta_priority c_trial_ta_pricedBy c_trial_ta_open c_trial_after_keys c_trial_after_seed c_trial_before_keys c_trial_before_seed c_trial_acts c_trial_whyNot c_trial_work c_trial_alikeAct c_trial_alikePair) [(0, .ref (a o)), (1, .int l1), (3, .long R)] 57 [] → WW g E 7 0 0 (wX7 E a o c_now_keys c_now_seed c_drawn_keys c_drawn_seed c_pad_signs c_pad_count c_sights_count c_sights_seeds c_img0_kept c_img0_world_keys c_img0_world_seed c_img0_sights_count c_img0_sights_seeds c_img1_kept c_img1_world_keys c_img1_world_seed c_img1_sights_count c_img1_sights_seeds c_trial_act_kind c_trial_act_set c_trial_act_key c_trial_act_other c_trial_tb_left c_trial_tb_right c_trial_tb_parent c_trial_tb_span c_trial_tb_root c_trial_tb_digest c_trial_tb_height c_trial_tb_priority c_trial_tb_pricedBy c_trial_tb_open c_trial_ta_left c_trial_ta_right c_trial_ta_parent c_trial_ta_span c_trial_ta_root c_trial_ta_digest c_trial_ta_height c_trial_ta_priority c_trial_ta_pricedBy c_trial_ta_open c_trial_after_keys c_trial_after_seed c_trial_before_keys c_trial_before_seed c_trial_acts c_trial_whyNot c_trial_work c_trial_alikeAct c_trial_alikePair) [(0, .ref (a o)), (1, .int l1), (2, .int l2), (3, .long l3), (5, .int l5)] 39 [] := by
  intro n
  induction n with
  | zero => intro l2 l3 l5 R h; exact no_some h
  | succ n ih =>
    intro l2 l3 l5 R h K
    rw [L_X7_orders_39] at h
    refine w_iload (pc2 := 41) G 4 rfl dX7_orders_39 rfl ?_
    refine w_iload_n (pc2 := 42) G 2 rfl dX7_orders_41 rfl rfl ?_
    refine w_icmp_gt (tgt := 57) (pc2 := 45) G dX7_orders_42 (by decide) rfl (fun cc => ?_) (fun cc => ?_)
    · replace h := (if_pos cc).symm.trans h
      cases h
      exact w_lv [0, 1, 3] rfl K
    · replace h := (if_neg cc).symm.trans h
      refine w_lload_n (pc2 := 46) G 3 rfl dX7_orders_45 rfl rfl ?_
      refine w_iload (pc2 := 48) G 4 rfl dX7_orders_46 rfl ?_
      refine w_i2l (pc2 := 49) G dX7_orders_48 rfl ?_
      refine w_lmul (pc2 := 50) G dX7_orders_49 rfl ?_
      refine w_lstore_n (pc2 := 51) (lv2 := [(3, .long (l3 * l5.toInt64)), (0, .ref (a o)), (1, .int l1), (2, .int l2), (5, .int l5)]) G dX7_orders_50 rfl (Nat.le_of_ble_eq_true rfl) rfl rfl ?_
      refine w_iinc (pc2 := 54) (lv2 := [(5, .int (l5 + (1 : Int32))), (3, .long (l3 * l5.toInt64)), (0, .ref (a o)), (1, .int l1), (2, .int l2)]) G 4 rfl dX7_orders_51 k_iconst_1 (Nat.le_of_ble_eq_true rfl) rfl rfl ?_
      refine w_goto (tgt := 39) G dX7_orders_54 (by decide) ?_
      exact w_lv [2, 3, 4, 1, 0] rfl (ih _ _ _ _ h K)
set_option maxHeartbeats 4000000 in
set_option maxRecDepth 100000 in
theorem lp_X7_orders_83 {g : CX} {E : EV} {a : Nat → Nat} {o : Nat} {c_now_keys : Nat → Int64} {c_now_seed : Int32} {c_drawn_keys : Nat → Int64} {c_drawn_seed : Int32} {c_pad_signs : Nat → Int32} {c_pad_count c_sights_count : Int32} {c_sights_seeds : Nat → Int64} {c_img0_kept : Int32} {c_img0_world_keys : Nat → Int64} {c_img0_world_seed c_img0_sights_count : Int32} {c_img0_sights_seeds : Nat → Int64} {c_img1_kept : Int32} {c_img1_world_keys : Nat → Int64} {c_img1_world_seed c_img1_sights_count : Int32} {c_img1_sights_seeds : Nat → Int64} {c_trial_act_kind c_trial_act_set c_trial_act_key c_trial_act_other : Int32} {c_trial_tb_left c_trial_tb_right c_trial_tb_parent : Nat → Int32} {c_trial_tb_root : Int32} {c_trial_tb_digest c_trial_tb_height c_trial_tb_priority : Nat → Int32} {c_trial_tb_pricedBy : Int32} {c_trial_tb_open c_trial_ta_left c_trial_ta_right c_trial_ta_parent : Nat → Int32} {c_trial_ta_span : Nat → Int64} {c_trial_ta_root : Int32} {c_trial_ta_digest c_trial_ta_height c_trial_ta_priority : Nat → Int32} {c_trial_ta_pricedBy : Int32} {c_trial_ta_open : Nat → Int32} {c_trial_after_keys : Nat → Int64} {c_trial_after_seed : Int32} {c_trial_before_keys : Nat → Int64} {c_trial_before_seed c_trial_acts c_trial_whyNot c_trial_work c_trial_alikeAct c_trial_alikePair : Int32}  (G : GG g E RX7 cX7_orders 7 (some .long) 3 0 0) : ∀ (n : Nat) (c_trial_tb_span : Nat → Int64) (l3 : Int64) (l5 : Int32) (R : Int64), L_X7_orders_83 n c_trial_tb_span l3 l5 = some R → WW g E 7 0 0 (wX7 E a o c_now_keys c_now_seed c_drawn_keys c_drawn_seed c_pad_signs c_pad_count c_sights_count c_sights_seeds c_img0_kept c_img0_world_keys c_img0_world_seed c_img0_sights_count c_img0_sights_seeds c_img1_kept c_img1_world_keys c_img1_world_seed c_img1_sights_count c_img1_sights_seeds c_trial_act_kind c_trial_act_set c_trial_act_key c_trial_act_other c_trial_tb_left c_trial_tb_right c_trial_tb_parent c_trial_tb_span c_trial_tb_root c_trial_tb_digest c_trial_tb_height c_trial_tb_priority c_trial_tb_pricedBy c_trial_tb_open c_trial_ta_left c_trial_ta_right c_trial_ta_parent c_trial_ta_span c_trial_ta_root c_trial_ta_digest c_trial_ta_height c_trial_ta_priority c_trial_ta_pricedBy c_trial_ta_open c_trial_after_keys c_trial_after_seed c_trial_before_keys c_trial_before_seed c_trial_acts c_trial_whyNot c_trial_work c_trial_alikeAct c_trial_alikePair) [(3, .long R)] 123 [] → WW g E 7 0 0 (wX7 E a o c_now_keys c_now_seed c_drawn_keys c_drawn_seed c_pad_signs c_pad_count c_sights_count c_sights_seeds c_img0_kept c_img0_world_keys c_img0_world_seed c_img0_sights_count c_img0_sights_seeds c_img1_kept c_img1_world_keys c_img1_world_seed c_img1_sights_count c_img1_sights_seeds c_trial_act_kind c_trial_act_set c_trial_act_key c_trial_act_other c_trial_tb_left c_trial_tb_right c_trial_tb_parent c_trial_tb_span c_trial_tb_root c_trial_tb_digest c_trial_tb_height c_trial_tb_priority c_trial_tb_pricedBy c_trial_tb_open c_trial_ta_left c_trial_ta_right c_trial_ta_parent c_trial_ta_span c_trial_ta_root c_trial_ta_digest c_trial_ta_height c_trial_ta_priority c_trial_ta_pricedBy c_trial_ta_open c_trial_after_keys c_trial_after_seed c_trial_before_keys c_trial_before_seed c_trial_acts c_trial_whyNot c_trial_work c_trial_alikeAct c_trial_alikePair) [(0, .ref (a o)), (3, .long l3), (5, .int l5)] 83 [] := by
  intro n
  induction n with
  | zero => intro c_trial_tb_span l3 l5 R h; exact no_some h
  | succ n ih =>
    intro c_trial_tb_span l3 l5 R h K
    rw [L_X7_orders_83] at h
    refine w_iload (pc2 := 85) G 2 rfl dX7_orders_83 rfl ?_
    refine w_bipush (pc2 := 87) G dX7_orders_85 k_bipush_50 rfl ?_
    refine w_icmp_ge (tgt := 123) (pc2 := 90) G dX7_orders_87 (by decide) rfl (fun cc => ?_) (fun cc => ?_)
    · replace h := (if_pos cc).symm.trans h
      cases h
      exact w_lv [1] rfl K
    · replace h := (if_neg cc).symm.trans h
      refine w_aload_n (pc2 := 91) G 0 rfl dX7_orders_90 rfl rfl ?_
      refine w_get (pc2 := 94) G foX7_55 0 rfl rfl dX7_orders_91 rfl ?_
      refine w_get (pc2 := 97) G foX7_193 22 rfl rfl dX7_orders_94 rfl ?_
      refine w_iload (pc2 := 99) G 2 rfl dX7_orders_97 rfl ?_
      obtain ⟨v1, H_v1, h⟩ := bs h
      refine w_laldo (pc2 := 100) G 26 rfl H_v1 dX7_orders_99 rfl ?_
      obtain ⟨x2, H_x2, h⟩ := bs h
      refine w_cS0 (pc2 := 103) (As := [.long v1]) (rest := []) G koX7_87 (r_X7_count H_x2) (Nat.le_of_ble_eq_true rfl) rfl rfl (Nat.le_of_ble_eq_true rfl) ⟨Nat.zero_le _, Nat.zero_le _⟩ dX7_orders_100 rfl rfl ?_
      refine w_istore (pc2 := 105) (lv2 := [(6, .int x2), (0, .ref (a o)), (3, .long l3), (5, .int l5)]) G dX7_orders_103 (Nat.le_of_ble_eq_true rfl) rfl rfl ?_
      refine w_iload (pc2 := 107) G 0 rfl dX7_orders_105 rfl ?_
      refine w_iconst (pc2 := 108) G dX7_orders_107 k_iconst_1 rfl ?_
      refine w_icmp_le (tgt := 117) (pc2 := 111) G dX7_orders_108 (by decide) rfl (fun cc => ?_) (fun cc => ?_)
      · replace h := (if_pos cc).symm.trans h
        refine w_iinc (pc2 := 120) (lv2 := [(5, .int (l5 + (1 : Int32))), (6, .int x2), (0, .ref (a o)), (3, .long l3)]) G 3 rfl dX7_orders_117 k_iconst_1 (Nat.le_of_ble_eq_true rfl) rfl rfl ?_
        refine w_goto (tgt := 83) G dX7_orders_120 (by decide) ?_
        exact w_lv [2, 3, 0] rfl (ih _ _ _ _ h K)
      · replace h := (if_neg cc).symm.trans h
        refine w_lload_n (pc2 := 112) G 2 rfl dX7_orders_111 rfl rfl ?_
        refine w_iload (pc2 := 114) G 0 rfl dX7_orders_112 rfl ?_
        refine w_i2l (pc2 := 115) G dX7_orders_114 rfl ?_
        obtain ⟨v3, H_v3, h⟩ := bs h
        refine w_ldivo (pc2 := 116) G H_v3 dX7_orders_115 rfl ?_
        refine w_lstore_n (pc2 := 117) (lv2 := [(3, .long v3), (6, .int x2), (0, .ref (a o)), (5, .int l5)]) G dX7_orders_116 rfl (Nat.le_of_ble_eq_true rfl) rfl rfl ?_
        refine w_iinc (pc2 := 120) (lv2 := [(5, .int (l5 + (1 : Int32))), (3, .long v3), (6, .int x2), (0, .ref (a o))]) G 3 rfl dX7_orders_117 k_iconst_1 (Nat.le_of_ble_eq_true rfl) rfl rfl ?_
        refine w_goto (tgt := 83) G dX7_orders_120 (by decide) ?_
        exact w_lv [3, 1, 0] rfl (ih _ _ _ _ h K)
set_option maxHeartbeats 4000000 in
set_option maxRecDepth 100000 in
theorem r_X7_orders {l : Launch} {E : EV} {a : Nat → Nat} {o : Nat} {c_now_keys : Nat → Int64} {c_now_seed : Int32} {c_drawn_keys : Nat → Int64} {c_drawn_seed : Int32} {c_pad_signs : Nat → Int32} {c_pad_count c_sights_count : Int32} {c_sights_seeds : Nat → Int64} {c_img0_kept : Int32} {c_img0_world_keys : Nat → Int64} {c_img0_world_seed c_img0_sights_count : Int32} {c_img0_sights_seeds : Nat → Int64} {c_img1_kept : Int32} {c_img1_world_keys : Nat → Int64} {c_img1_world_seed c_img1_sights_count : Int32} {c_img1_sights_seeds : Nat → Int64} {c_trial_act_kind c_trial_act_set c_trial_act_key c_trial_act_other : Int32} {c_trial_tb_left c_trial_tb_right c_trial_tb_parent : Nat → Int32} {c_trial_tb_span : Nat → Int64} {c_trial_tb_root : Int32} {c_trial_tb_digest c_trial_tb_height c_trial_tb_priority : Nat → Int32} {c_trial_tb_pricedBy : Int32} {c_trial_tb_open c_trial_ta_left c_trial_ta_right c_trial_ta_parent : Nat → Int32} {c_trial_ta_span : Nat → Int64} {c_trial_ta_root : Int32} {c_trial_ta_digest c_trial_ta_height c_trial_ta_priority : Nat → Int32} {c_trial_ta_pricedBy : Int32} {c_trial_ta_open : Nat → Int32} {c_trial_after_keys : Nat → Int64} {c_trial_after_seed : Int32} {c_trial_before_keys : Nat → Int64} {c_trial_before_seed c_trial_acts c_trial_whyNot c_trial_work c_trial_alikeAct c_trial_alikePair : Int32} {l1 : Int32} {R : Int64 × (Nat → Int32) × (Nat → Int32) × (Nat → Int32) × (Nat → Int64) × Int32 × (Nat → Int32) × (Nat → Int32) × (Nat → Int32) × Int32 × (Nat → Int32)} (h : f_X7_orders c_now_keys c_now_seed c_trial_tb_left c_trial_tb_right c_trial_tb_parent c_trial_tb_span c_trial_tb_root c_trial_tb_digest c_trial_tb_height c_trial_tb_priority c_trial_tb_pricedBy c_trial_tb_open l1 = some R) : Ret1 l E yX7_orders cX7_orders 7 (some .long) 3 (wX7 E a o c_now_keys c_now_seed c_drawn_keys c_drawn_seed c_pad_signs c_pad_count c_sights_count c_sights_seeds c_img0_kept c_img0_world_keys c_img0_world_seed c_img0_sights_count c_img0_sights_seeds c_img1_kept c_img1_world_keys c_img1_world_seed c_img1_sights_count c_img1_sights_seeds c_trial_act_kind c_trial_act_set c_trial_act_key c_trial_act_other c_trial_tb_left c_trial_tb_right c_trial_tb_parent c_trial_tb_span c_trial_tb_root c_trial_tb_digest c_trial_tb_height c_trial_tb_priority c_trial_tb_pricedBy c_trial_tb_open c_trial_ta_left c_trial_ta_right c_trial_ta_parent c_trial_ta_span c_trial_ta_root c_trial_ta_digest c_trial_ta_height c_trial_ta_priority c_trial_ta_pricedBy c_trial_ta_open c_trial_after_keys c_trial_after_seed c_trial_before_keys c_trial_before_seed c_trial_acts c_trial_whyNot c_trial_work c_trial_alikeAct c_trial_alikePair) [.ref (a o), .int l1] (some (.long R.1)) (wX7 E a o c_now_keys c_now_seed c_drawn_keys c_drawn_seed c_pad_signs c_pad_count c_sights_count c_sights_seeds c_img0_kept c_img0_world_keys c_img0_world_seed c_img0_sights_count c_img0_sights_seeds c_img1_kept c_img1_world_keys c_img1_world_seed c_img1_sights_count c_img1_sights_seeds c_trial_act_kind c_trial_act_set c_trial_act_key c_trial_act_other R.2.1 R.2.2.1 R.2.2.2.1 R.2.2.2.2.1 R.2.2.2.2.2.1 R.2.2.2.2.2.2.1 R.2.2.2.2.2.2.2.1 R.2.2.2.2.2.2.2.2.1 R.2.2.2.2.2.2.2.2.2.1 R.2.2.2.2.2.2.2.2.2.2 c_trial_ta_left c_trial_ta_right c_trial_ta_parent c_trial_ta_span c_trial_ta_root c_trial_ta_digest c_trial_ta_height c_trial_ta_priority c_trial_ta_pricedBy c_trial_ta_open c_trial_after_keys c_trial_after_seed c_trial_before_keys c_trial_before_seed c_trial_acts c_trial_whyNot c_trial_work c_trial_alikeAct c_trial_alikePair) := by
  refine Ret.intro (lv := [(0, .ref (a o)), (1, .int l1)]) (by decide) (Nat.le_of_ble_eq_true rfl) rfl ?_
  intro g hgl G hQ
  subst hgl
  rw [f_X7_orders] at h
  refine w_iload_n (pc2 := 1) G 1 rfl dX7_orders_0 rfl rfl ?_
  obtain ⟨x1, H_x1, h⟩ := bs h
  refine w_cS0 (pc2 := 4) (As := [.int l1]) (rest := []) G koX7_73 (r_X7_isSet H_x1) (Nat.le_of_ble_eq_true rfl) rfl rfl (Nat.le_of_ble_eq_true rfl) ⟨Nat.zero_le _, Nat.zero_le _⟩ dX7_orders_1 rfl rfl ?_
  refine w_if_ne (tgt := 11) (pc2 := 7) G dX7_orders_4 (by decide) rfl (fun cc => ?_) (fun cc => ?_)
  · replace h := (if_neg cc).symm.trans h
    refine w_aload_n (pc2 := 12) G 0 rfl dX7_orders_11 rfl rfl ?_
    refine w_get (pc2 := 15) G foX7_10 0 rfl rfl dX7_orders_12 rfl ?_
    refine w_get (pc2 := 18) G foX7_79 1 rfl rfl dX7_orders_15 rfl ?_
    refine w_iload_n (pc2 := 19) G 1 rfl dX7_orders_18 rfl rfl ?_
    obtain ⟨v2, H_v2, h⟩ := bs h
    refine w_laldo (pc2 := 20) G 2 rfl H_v2 dX7_orders_19 rfl ?_
    obtain ⟨x3, H_x3, h⟩ := bs h
    refine w_cS0 (pc2 := 23) (As := [.long v2]) (rest := []) G koX7_87 (r_X7_count H_x3) (Nat.le_of_ble_eq_true rfl) rfl rfl (Nat.le_of_ble_eq_true rfl) ⟨Nat.zero_le _, Nat.zero_le _⟩ dX7_orders_20 rfl rfl ?_
    refine w_istore_n (pc2 := 24) (lv2 := [(2, .int x3), (0, .ref (a o)), (1, .int l1)]) G dX7_orders_23 rfl (Nat.le_of_ble_eq_true rfl) rfl rfl ?_
    refine w_iload_n (pc2 := 25) G 0 rfl dX7_orders_24 rfl rfl ?_
    refine w_bipush (pc2 := 27) G dX7_orders_25 k_bipush_20 rfl ?_
    refine w_icmp_le (tgt := 34) (pc2 := 30) G dX7_orders_27 (by decide) rfl (fun cc => ?_) (fun cc => ?_)
    · replace h := (if_pos cc).symm.trans h
      refine w_lconst (pc2 := 35) G dX7_orders_34 k_lconst_1 rfl ?_
      refine w_lstore_n (pc2 := 36) (lv2 := [(3, .long (1 : Int64)), (2, .int x3), (0, .ref (a o)), (1, .int l1)]) G dX7_orders_35 rfl (Nat.le_of_ble_eq_true rfl) rfl rfl ?_
      refine w_iconst (pc2 := 37) G dX7_orders_36 k_iconst_2 rfl ?_
      refine w_istore (pc2 := 39) (lv2 := [(5, .int (2 : Int32)), (3, .long (1 : Int64)), (2, .int x3), (0, .ref (a o)), (1, .int l1)]) G dX7_orders_37 (Nat.le_of_ble_eq_true rfl) rfl rfl ?_
      obtain ⟨x4, h0, h⟩ := bs h
      have K_x4 : WW g E 7 0 0 (wX7 E a o c_now_keys c_now_seed c_drawn_keys c_drawn_seed c_pad_signs c_pad_count c_sights_count c_sights_seeds c_img0_kept c_img0_world_keys c_img0_world_seed c_img0_sights_count c_img0_sights_seeds c_img1_kept c_img1_world_keys c_img1_world_seed c_img1_sights_count c_img1_sights_seeds c_trial_act_kind c_trial_act_set c_trial_act_key c_trial_act_other c_trial_tb_left c_trial_tb_right c_trial_tb_parent c_trial_tb_span c_trial_tb_root c_trial_tb_digest c_trial_tb_height c_trial_tb_priority c_trial_tb_pricedBy c_trial_tb_open c_trial_ta_left c_trial_ta_right c_trial_ta_parent c_trial_ta_span c_trial_ta_root c_trial_ta_digest c_trial_ta_height c_trial_ta_priority c_trial_ta_pricedBy c_trial_ta_open c_trial_after_keys c_trial_after_seed c_trial_before_keys c_trial_before_seed c_trial_acts c_trial_whyNot c_trial_work c_trial_alikeAct c_trial_alikePair) [(0, .ref (a o)), (1, .int l1), (3, .long x4)] 57 [] := by
        clear h0
        refine w_aload_n (pc2 := 58) G 0 rfl dX7_orders_57 rfl rfl ?_
        refine w_get (pc2 := 61) G foX7_55 0 rfl rfl dX7_orders_58 rfl ?_
        refine w_aload_n (pc2 := 62) G 0 rfl dX7_orders_61 rfl rfl ?_
        refine w_get (pc2 := 65) G foX7_10 0 rfl rfl dX7_orders_62 rfl ?_
        refine w_get (pc2 := 68) G foX7_79 1 rfl rfl dX7_orders_65 rfl ?_
        refine w_iload_n (pc2 := 69) G 1 rfl dX7_orders_68 rfl rfl ?_
        obtain ⟨v5, H_v5, h⟩ := bs h
        refine w_laldo (pc2 := 70) G 2 rfl H_v5 dX7_orders_69 rfl ?_
        refine w_aload_n (pc2 := 71) G 0 rfl dX7_orders_70 rfl rfl ?_
        refine w_get (pc2 := 74) G foX7_10 0 rfl rfl dX7_orders_71 rfl ?_
        refine w_get (pc2 := 77) G foX7_69 1 rfl rfl dX7_orders_74 rfl ?_
        obtain ⟨x6, H_x6, h⟩ := bs h
        refine w_cV1 (pc2 := 80) (ws2 := (wX7 E a o c_now_keys c_now_seed c_drawn_keys c_drawn_seed c_pad_signs c_pad_count c_sights_count c_sights_seeds c_img0_kept c_img0_world_keys c_img0_world_seed c_img0_sights_count c_img0_sights_seeds c_img1_kept c_img1_world_keys c_img1_world_seed c_img1_sights_count c_img1_sights_seeds c_trial_act_kind c_trial_act_set c_trial_act_key c_trial_act_other x6.1 x6.2.1 x6.2.2.1 x6.2.2.2.1 x6.2.2.2.2.1 x6.2.2.2.2.2.1 x6.2.2.2.2.2.2.1 x6.2.2.2.2.2.2.2.1 x6.2.2.2.2.2.2.2.2.1 x6.2.2.2.2.2.2.2.2.2 c_trial_ta_left c_trial_ta_right c_trial_ta_parent c_trial_ta_span c_trial_ta_root c_trial_ta_digest c_trial_ta_height c_trial_ta_priority c_trial_ta_pricedBy c_trial_ta_open c_trial_after_keys c_trial_after_seed c_trial_before_keys c_trial_before_seed c_trial_acts c_trial_whyNot c_trial_work c_trial_alikeAct c_trial_alikePair)) (As := [.long v5, .int c_now_seed]) (rest := []) G koX7_124 (r_X4_grow (o := (o + 22)) H_x6) (Nat.le_of_ble_eq_true rfl) 4 rfl rfl [22, 23, 24, 25, 26, 27, 28, 29, 30] [0, 1, 2, 3, 4, 5, 6, 7, 8, 9, 10, 11, 12, 13, 14, 15, 16, 17, 18, 19, 20, 21, 31, 32, 33, 34, 35, 36, 37, 38, 39, 40, 41, 42, 43] [0, 1, 2, 3, 4, 5, 6, 7, 8, 9, 10, 11, 12, 13, 14, 15, 16, 17, 18, 19, 20, 21, 35, 36, 37, 38, 39, 40, 41, 42, 43, 22, 23, 24, 25, 26, 27, 28, 29, 30, 31, 32, 33, 34] rfl rfl rfl rfl rfl rfl rfl rfl rfl (Nat.le_of_ble_eq_true rfl) ⟨Nat.zero_le _, Nat.zero_le _⟩ dX7_orders_77 rfl rfl ?_
        refine w_iconst (pc2 := 81) G dX7_orders_80 k_iconst_0 rfl ?_
        refine w_istore (pc2 := 83) (lv2 := [(5, .int (0 : Int32)), (0, .ref (a o)), (1, .int l1), (3, .long x4)]) G dX7_orders_81 (Nat.le_of_ble_eq_true rfl) rfl rfl ?_
        obtain ⟨x7, h0, h⟩ := bs h
        have K_x7 : WW g E 7 0 0 (wX7 E a o c_now_keys c_now_seed c_drawn_keys c_drawn_seed c_pad_signs c_pad_count c_sights_count c_sights_seeds c_img0_kept c_img0_world_keys c_img0_world_seed c_img0_sights_count c_img0_sights_seeds c_img1_kept c_img1_world_keys c_img1_world_seed c_img1_sights_count c_img1_sights_seeds c_trial_act_kind c_trial_act_set c_trial_act_key c_trial_act_other x6.1 x6.2.1 x6.2.2.1 x6.2.2.2.1 x6.2.2.2.2.1 x6.2.2.2.2.2.1 x6.2.2.2.2.2.2.1 x6.2.2.2.2.2.2.2.1 x6.2.2.2.2.2.2.2.2.1 x6.2.2.2.2.2.2.2.2.2 c_trial_ta_left c_trial_ta_right c_trial_ta_parent c_trial_ta_span c_trial_ta_root c_trial_ta_digest c_trial_ta_height c_trial_ta_priority c_trial_ta_pricedBy c_trial_ta_open c_trial_after_keys c_trial_after_seed c_trial_before_keys c_trial_before_seed c_trial_acts c_trial_whyNot c_trial_work c_trial_alikeAct c_trial_alikePair) [(3, .long x7)] 123 [] := by
          clear h0
          refine w_lload_n (pc2 := 124) G 0 rfl dX7_orders_123 rfl rfl ?_
          cases h
          exact w_lret G hQ rfl ⟨rfl, rfl⟩ dX7_orders_124
        exact w_lv [1, 3, 0] rfl (lp_X7_orders_83 G 20000 _ _ _ _ h0 (w_lv [0] rfl K_x7))
      exact w_lv [3, 4, 2, 1, 0] rfl (lp_X7_orders_39 G 20000 _ _ _ _ h0 (w_lv [0, 1, 2] rfl K_x4))
    · replace h := (if_neg cc).symm.trans h
      refine w_ldc2 (pc2 := 33) G wd_157 dX7_orders_30 rfl ?_
      cases h
      exact w_lret G hQ rfl ⟨rfl, rfl⟩ dX7_orders_33
  · replace h := (if_pos cc).symm.trans h
    refine w_ldc2 (pc2 := 10) G wd_108 dX7_orders_7 rfl ?_
    cases h
    exact w_lret G hQ rfl ⟨rfl, rfl⟩ dX7_orders_10

set_option maxHeartbeats 4000000 in
set_option maxRecDepth 100000 in
theorem lp_X7_shapes_19 {g : CX} {E : EV} {a : Nat → Nat} {o : Nat} {c_now_keys : Nat → Int64} {c_now_seed : Int32} {c_drawn_keys : Nat → Int64} {c_drawn_seed : Int32} {c_pad_signs : Nat → Int32} {c_pad_count c_sights_count : Int32} {c_sights_seeds : Nat → Int64} {c_img0_kept : Int32} {c_img0_world_keys : Nat → Int64} {c_img0_world_seed c_img0_sights_count : Int32} {c_img0_sights_seeds : Nat → Int64} {c_img1_kept : Int32} {c_img1_world_keys : Nat → Int64} {c_img1_world_seed c_img1_sights_count : Int32} {c_img1_sights_seeds : Nat → Int64} {c_trial_act_kind c_trial_act_set c_trial_act_key c_trial_act_other : Int32} {c_trial_tb_left c_trial_tb_right c_trial_tb_parent : Nat → Int32} {c_trial_tb_span : Nat → Int64} {c_trial_tb_root : Int32} {c_trial_tb_digest c_trial_tb_height c_trial_tb_priority : Nat → Int32} {c_trial_tb_pricedBy : Int32} {c_trial_tb_open c_trial_ta_left c_trial_ta_right c_trial_ta_parent : Nat → Int32} {c_trial_ta_span : Nat → Int64} {c_trial_ta_root : Int32} {c_trial_ta_digest c_trial_ta_height c_trial_ta_priority : Nat → Int32} {c_trial_ta_pricedBy : Int32} {c_trial_ta_open : Nat → Int32} {c_trial_after_keys : Nat → Int64} {c_trial_after_seed : Int32} {c_trial_before_keys : Nat → Int64} {c_trial_before_seed c_trial_acts c_trial_whyNot c_trial_work c_trial_alikeAct c_trial_alikePair : Int32}  (G : GG g E RX7 cX7_shapes 5 (some .long) 0 0 0) : ∀ (n : Nat) (l1 : Int32) (l2 : Int64) (l4 : Int32) (R : Int64), L_X7_shapes_19 n l1 l2 l4 = some R → WW g E 5 0 0 (wX7 E a o c_now_keys c_now_seed c_drawn_keys c_drawn_seed c_pad_signs c_pad_count c_sights_count c_sights_seeds c_img0_kept c_img0_world_keys c_img0_world_seed c_img0_sights_count c_img0_sights_seeds c_img1_kept c_img1_world_keys c_img1_world_seed c_img1_sights_count c_img1_sights_seeds c_trial_act_kind c_trial_act_set c_trial_act_key c_trial_act_other c_trial_tb_left c_trial_tb_right c_trial_tb_parent c_trial_tb_span c_trial_tb_root c_trial_tb_digest c_trial_tb_height c_trial_tb_priority c_trial_tb_pricedBy c_trial_tb_open c_trial_ta_left c_trial_ta_right c_trial_ta_parent c_trial_ta_span c_trial_ta_root c_trial_ta_digest c_trial_ta_height c_trial_ta_priority c_trial_ta_pricedBy c_trial_ta_open c_trial_after_keys c_trial_after_seed c_trial_before_keys c_trial_before_seed c_trial_acts c_trial_whyNot c_trial_work c_trial_alikeAct c_trial_alikePair) [(2, .long R)] 47 [] → WW g E 5 0 0 (wX7 E a o c_now_keys c_now_seed c_drawn_keys c_drawn_seed c_pad_signs c_pad_count c_sights_count c_sights_seeds c_img0_kept c_img0_world_keys c_img0_world_seed c_img0_sights_count c_img0_sights_seeds c_img1_kept c_img1_world_keys c_img1_world_seed c_img1_sights_count c_img1_sights_seeds c_trial_act_kind c_trial_act_set c_trial_act_key c_trial_act_other c_trial_tb_left c_trial_tb_right c_trial_tb_parent c_trial_tb_span c_trial_tb_root c_trial_tb_digest c_trial_tb_height c_trial_tb_priority c_trial_tb_pricedBy c_trial_tb_open c_trial_ta_left c_trial_ta_right c_trial_ta_parent c_trial_ta_span c_trial_ta_root c_trial_ta_digest c_trial_ta_height c_trial_ta_priority c_trial_ta_pricedBy c_trial_ta_open c_trial_after_keys c_trial_after_seed c_trial_before_keys c_trial_before_seed c_trial_acts c_trial_whyNot c_trial_work c_trial_alikeAct c_trial_alikePair) [(1, .int l1), (2, .long l2), (4, .int l4)] 19 [] := by
  intro n
  induction n with
  | zero => intro l1 l2 l4 R h; exact no_some h
  | succ n ih =>
    intro l1 l2 l4 R h K
    rw [L_X7_shapes_19] at h
    refine w_iload (pc2 := 21) G 2 rfl dX7_shapes_19 rfl ?_
    refine w_iload_n (pc2 := 22) G 0 rfl dX7_shapes_21 rfl rfl ?_
    refine w_icmp_gt (tgt := 47) (pc2 := 25) G dX7_shapes_22 (by decide) rfl (fun cc => ?_) (fun cc => ?_)
    · replace h := (if_pos cc).symm.trans h
      cases h
      exact w_lv [1] rfl K
    · replace h := (if_neg cc).symm.trans h
      refine w_lload_n (pc2 := 26) G 1 rfl dX7_shapes_25 rfl rfl ?_
      refine w_iconst (pc2 := 27) G dX7_shapes_26 k_iconst_4 rfl ?_
      refine w_iload (pc2 := 29) G 2 rfl dX7_shapes_27 rfl ?_
      refine w_imul (pc2 := 30) G dX7_shapes_29 rfl ?_
      refine w_iconst (pc2 := 31) G dX7_shapes_30 k_iconst_2 rfl ?_
      refine w_isub (pc2 := 32) G dX7_shapes_31 rfl ?_
      refine w_i2l (pc2 := 33) G dX7_shapes_32 rfl ?_
      refine w_lmul (pc2 := 34) G dX7_shapes_33 rfl ?_
      refine w_iload (pc2 := 36) G 2 rfl dX7_shapes_34 rfl ?_
      refine w_iconst (pc2 := 37) G dX7_shapes_36 k_iconst_1 rfl ?_
      refine w_iadd (pc2 := 38) G dX7_shapes_37 rfl ?_
      refine w_i2l (pc2 := 39) G dX7_shapes_38 rfl ?_
      obtain ⟨v1, H_v1, h⟩ := bs h
      refine w_ldivo (pc2 := 40) G H_v1 dX7_shapes_39 rfl ?_
      refine w_lstore_n (pc2 := 41) (lv2 := [(2, .long v1), (1, .int l1), (4, .int l4)]) G dX7_shapes_40 rfl (Nat.le_of_ble_eq_true rfl) rfl rfl ?_
      refine w_iinc (pc2 := 44) (lv2 := [(4, .int (l4 + (1 : Int32))), (2, .long v1), (1, .int l1)]) G 2 rfl dX7_shapes_41 k_iconst_1 (Nat.le_of_ble_eq_true rfl) rfl rfl ?_
      refine w_goto (tgt := 19) G dX7_shapes_44 (by decide) ?_
      exact w_lv [2, 1, 0] rfl (ih _ _ _ _ h K)
set_option maxHeartbeats 4000000 in
set_option maxRecDepth 100000 in
theorem r_X7_shapes {l : Launch} {E : EV} {a : Nat → Nat} {o : Nat} {c_now_keys : Nat → Int64} {c_now_seed : Int32} {c_drawn_keys : Nat → Int64} {c_drawn_seed : Int32} {c_pad_signs : Nat → Int32} {c_pad_count c_sights_count : Int32} {c_sights_seeds : Nat → Int64} {c_img0_kept : Int32} {c_img0_world_keys : Nat → Int64} {c_img0_world_seed c_img0_sights_count : Int32} {c_img0_sights_seeds : Nat → Int64} {c_img1_kept : Int32} {c_img1_world_keys : Nat → Int64} {c_img1_world_seed c_img1_sights_count : Int32} {c_img1_sights_seeds : Nat → Int64} {c_trial_act_kind c_trial_act_set c_trial_act_key c_trial_act_other : Int32} {c_trial_tb_left c_trial_tb_right c_trial_tb_parent : Nat → Int32} {c_trial_tb_span : Nat → Int64} {c_trial_tb_root : Int32} {c_trial_tb_digest c_trial_tb_height c_trial_tb_priority : Nat → Int32} {c_trial_tb_pricedBy : Int32} {c_trial_tb_open c_trial_ta_left c_trial_ta_right c_trial_ta_parent : Nat → Int32} {c_trial_ta_span : Nat → Int64} {c_trial_ta_root : Int32} {c_trial_ta_digest c_trial_ta_height c_trial_ta_priority : Nat → Int32} {c_trial_ta_pricedBy : Int32} {c_trial_ta_open : Nat → Int32} {c_trial_after_keys : Nat → Int64} {c_trial_after_seed : Int32} {c_trial_before_keys : Nat → Int64} {c_trial_before_seed c_trial_acts c_trial_whyNot c_trial_work c_trial_alikeAct c_trial_alikePair : Int32} {l1 : Int32} {R : Int64} (h : f_X7_shapes l1 = some R) : Ret1 l E yX7_shapes cX7_shapes 5 (some .long) 0 (wX7 E a o c_now_keys c_now_seed c_drawn_keys c_drawn_seed c_pad_signs c_pad_count c_sights_count c_sights_seeds c_img0_kept c_img0_world_keys c_img0_world_seed c_img0_sights_count c_img0_sights_seeds c_img1_kept c_img1_world_keys c_img1_world_seed c_img1_sights_count c_img1_sights_seeds c_trial_act_kind c_trial_act_set c_trial_act_key c_trial_act_other c_trial_tb_left c_trial_tb_right c_trial_tb_parent c_trial_tb_span c_trial_tb_root c_trial_tb_digest c_trial_tb_height c_trial_tb_priority c_trial_tb_pricedBy c_trial_tb_open c_trial_ta_left c_trial_ta_right c_trial_ta_parent c_trial_ta_span c_trial_ta_root c_trial_ta_digest c_trial_ta_height c_trial_ta_priority c_trial_ta_pricedBy c_trial_ta_open c_trial_after_keys c_trial_after_seed c_trial_before_keys c_trial_before_seed c_trial_acts c_trial_whyNot c_trial_work c_trial_alikeAct c_trial_alikePair) [.ref (a o), .int l1] (some (.long R)) (wX7 E a o c_now_keys c_now_seed c_drawn_keys c_drawn_seed c_pad_signs c_pad_count c_sights_count c_sights_seeds c_img0_kept c_img0_world_keys c_img0_world_seed c_img0_sights_count c_img0_sights_seeds c_img1_kept c_img1_world_keys c_img1_world_seed c_img1_sights_count c_img1_sights_seeds c_trial_act_kind c_trial_act_set c_trial_act_key c_trial_act_other c_trial_tb_left c_trial_tb_right c_trial_tb_parent c_trial_tb_span c_trial_tb_root c_trial_tb_digest c_trial_tb_height c_trial_tb_priority c_trial_tb_pricedBy c_trial_tb_open c_trial_ta_left c_trial_ta_right c_trial_ta_parent c_trial_ta_span c_trial_ta_root c_trial_ta_digest c_trial_ta_height c_trial_ta_priority c_trial_ta_pricedBy c_trial_ta_open c_trial_after_keys c_trial_after_seed c_trial_before_keys c_trial_before_seed c_trial_acts c_trial_whyNot c_trial_work c_trial_alikeAct c_trial_alikePair) := by
  refine Ret.intro (lv := [(0, .ref (a o)), (1, .int l1)]) (by decide) (Nat.le_of_ble_eq_true rfl) rfl ?_
  intro g hgl G hQ
  subst hgl
  rw [f_X7_shapes] at h
  refine w_iload_n (pc2 := 1) G 1 rfl dX7_shapes_0 rfl rfl ?_
  refine w_if_lt (tgt := 10) (pc2 := 4) G dX7_shapes_1 (by decide) rfl (fun cc => ?_) (fun cc => ?_)
  · replace h := (if_pos cc).symm.trans h
    refine w_ldc2 (pc2 := 13) G wd_158 dX7_shapes_10 rfl ?_
    cases h
    exact w_lret G hQ rfl ⟨rfl, rfl⟩ dX7_shapes_13
  · replace h := (if_neg cc).symm.trans h
    refine w_iload_n (pc2 := 5) G 1 rfl dX7_shapes_4 rfl rfl ?_
    refine w_bipush (pc2 := 7) G dX7_shapes_5 k_bipush_30 rfl ?_
    refine w_icmp_le (tgt := 14) (pc2 := 10) G dX7_shapes_7 (by decide) rfl (fun cc => ?_) (fun cc => ?_)
    · replace h := (if_pos cc).symm.trans h
      refine w_lconst (pc2 := 15) G dX7_shapes_14 k_lconst_1 rfl ?_
      refine w_lstore_n (pc2 := 16) (lv2 := [(2, .long (1 : Int64)), (0, .ref (a o)), (1, .int l1)]) G dX7_shapes_15 rfl (Nat.le_of_ble_eq_true rfl) rfl rfl ?_
      refine w_iconst (pc2 := 17) G dX7_shapes_16 k_iconst_1 rfl ?_
      refine w_istore (pc2 := 19) (lv2 := [(4, .int (1 : Int32)), (2, .long (1 : Int64)), (0, .ref (a o)), (1, .int l1)]) G dX7_shapes_17 (Nat.le_of_ble_eq_true rfl) rfl rfl ?_
      obtain ⟨x1, h0, h⟩ := bs h
      have K_x1 : WW g E 5 0 0 (wX7 E a o c_now_keys c_now_seed c_drawn_keys c_drawn_seed c_pad_signs c_pad_count c_sights_count c_sights_seeds c_img0_kept c_img0_world_keys c_img0_world_seed c_img0_sights_count c_img0_sights_seeds c_img1_kept c_img1_world_keys c_img1_world_seed c_img1_sights_count c_img1_sights_seeds c_trial_act_kind c_trial_act_set c_trial_act_key c_trial_act_other c_trial_tb_left c_trial_tb_right c_trial_tb_parent c_trial_tb_span c_trial_tb_root c_trial_tb_digest c_trial_tb_height c_trial_tb_priority c_trial_tb_pricedBy c_trial_tb_open c_trial_ta_left c_trial_ta_right c_trial_ta_parent c_trial_ta_span c_trial_ta_root c_trial_ta_digest c_trial_ta_height c_trial_ta_priority c_trial_ta_pricedBy c_trial_ta_open c_trial_after_keys c_trial_after_seed c_trial_before_keys c_trial_before_seed c_trial_acts c_trial_whyNot c_trial_work c_trial_alikeAct c_trial_alikePair) [(2, .long x1)] 47 [] := by
        clear h0
        refine w_lload_n (pc2 := 48) G 0 rfl dX7_shapes_47 rfl rfl ?_
        cases h
        exact w_lret G hQ rfl ⟨rfl, rfl⟩ dX7_shapes_48
      exact w_lv [3, 1, 0] rfl (lp_X7_shapes_19 G 20000 _ _ _ _ h0 (w_lv [0] rfl K_x1))
    · replace h := (if_neg cc).symm.trans h
      refine w_ldc2 (pc2 := 13) G wd_158 dX7_shapes_10 rfl ?_
      cases h
      exact w_lret G hQ rfl ⟨rfl, rfl⟩ dX7_shapes_13

set_option maxHeartbeats 4000000 in
set_option maxRecDepth 100000 in
theorem lp_X7_greatestDivisor_3 {g : CX} {E : EV}   (G : GG g E RX7 cX7_greatestDivisor 7 (some .long) 0 0 0) : ∀ (n : Nat) (l0 : Int64) (l2 : Int64) (l4 : Int32) (R : Int64), L_X7_greatestDivisor_3 n l0 l2 l4 = some R → WW g E 7 0 0 [] [(0, .long R)] 32 [] → WW g E 7 0 0 [] [(0, .long l0), (2, .long l2), (4, .int l4)] 3 [] := by
  intro n
  induction n with
  | zero => intro l0 l2 l4 R h; exact no_some h
  | succ n ih =>
    intro l0 l2 l4 R h K
    rw [L_X7_greatestDivisor_3] at h
    refine w_iload (pc2 := 5) G 2 rfl dX7_greatestDivisor_3 rfl ?_
    refine w_bipush (pc2 := 7) G dX7_greatestDivisor_5 k_bipush_100 rfl ?_
    refine w_icmp_ge (tgt := 32) (pc2 := 10) G dX7_greatestDivisor_7 (by decide) rfl (fun cc => ?_) (fun cc => ?_)
    · replace h := (if_pos cc).symm.trans h
      cases h
      exact w_lv [0] rfl K
    · replace h := (if_neg cc).symm.trans h
      refine w_lload_n (pc2 := 11) G 1 rfl dX7_greatestDivisor_10 rfl rfl ?_
      refine w_lconst (pc2 := 12) G dX7_greatestDivisor_11 k_lconst_0 rfl ?_
      refine w_lcmp (pc2 := 13) G dX7_greatestDivisor_12 rfl ?_
      refine w_if_eq (tgt := 32) (pc2 := 16) G dX7_greatestDivisor_13 (by decide) rfl (fun cc => ?_) (fun cc => ?_)
      · replace h := (if_pos cc).symm.trans h
        cases h
        exact w_lv [0] rfl K
      · replace h := (if_neg cc).symm.trans h
        refine w_lload_n (pc2 := 17) G 0 rfl dX7_greatestDivisor_16 rfl rfl ?_
        refine w_lload_n (pc2 := 18) G 1 rfl dX7_greatestDivisor_17 rfl rfl ?_
        obtain ⟨v1, H_v1, h⟩ := bs h
        refine w_lremo (pc2 := 19) G H_v1 dX7_greatestDivisor_18 rfl ?_
        refine w_lstore (pc2 := 21) (lv2 := [(5, .long v1), (0, .long l0), (2, .long l2), (4, .int l4)]) G dX7_greatestDivisor_19 (Nat.le_of_ble_eq_true rfl) rfl rfl ?_
        refine w_lload_n (pc2 := 22) G 2 rfl dX7_greatestDivisor_21 rfl rfl ?_
        refine w_lstore_n (pc2 := 23) (lv2 := [(0, .long l2), (5, .long v1), (2, .long l2), (4, .int l4)]) G dX7_greatestDivisor_22 rfl (Nat.le_of_ble_eq_true rfl) rfl rfl ?_
        refine w_lload (pc2 := 25) G 1 rfl dX7_greatestDivisor_23 rfl ?_
        refine w_lstore_n (pc2 := 26) (lv2 := [(2, .long v1), (0, .long l2), (5, .long v1), (4, .int l4)]) G dX7_greatestDivisor_25 rfl (Nat.le_of_ble_eq_true rfl) rfl rfl ?_
        refine w_iinc (pc2 := 29) (lv2 := [(4, .int (l4 + (1 : Int32))), (2, .long v1), (0, .long l2), (5, .long v1)]) G 3 rfl dX7_greatestDivisor_26 k_iconst_1 (Nat.le_of_ble_eq_true rfl) rfl rfl ?_
        refine w_goto (tgt := 3) G dX7_greatestDivisor_29 (by decide) ?_
        exact w_lv [2, 1, 0] rfl (ih _ _ _ _ h K)
set_option maxHeartbeats 4000000 in
set_option maxRecDepth 100000 in
theorem r_X7_greatestDivisor {l : Launch} {E : EV}  {l0 : Int64} {l2 : Int64} {R : Int64} (h : f_X7_greatestDivisor l0 l2 = some R) : Ret1 l E yX7_greatestDivisor cX7_greatestDivisor 7 (some .long) 0 [] [.long l0, .long l2] (some (.long R)) [] := by
  refine Ret.intro (lv := [(0, .long l0), (2, .long l2)]) (by decide) (Nat.le_of_ble_eq_true rfl) rfl ?_
  intro g hgl G hQ
  subst hgl
  rw [f_X7_greatestDivisor] at h
  refine w_iconst (pc2 := 1) G dX7_greatestDivisor_0 k_iconst_0 rfl ?_
  refine w_istore (pc2 := 3) (lv2 := [(4, .int (0 : Int32)), (0, .long l0), (2, .long l2)]) G dX7_greatestDivisor_1 (Nat.le_of_ble_eq_true rfl) rfl rfl ?_
  obtain ⟨x1, h0, h⟩ := bs h
  have K_x1 : WW g E 7 0 0 [] [(0, .long x1)] 32 [] := by
    clear h0
    refine w_lload_n (pc2 := 33) G 0 rfl dX7_greatestDivisor_32 rfl rfl ?_
    cases h
    exact w_lret G hQ rfl ⟨rfl, rfl⟩ dX7_greatestDivisor_33
  exact w_lv [1, 2, 0] rfl (lp_X7_greatestDivisor_3 G 20000 _ _ _ _ h0 (w_lv [0] rfl K_x1))
