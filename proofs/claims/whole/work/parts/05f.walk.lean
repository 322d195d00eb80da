set_option maxHeartbeats 4000000 in
set_option maxRecDepth 100000 in
theorem r_X7_judge {l : Launch} {E : EV} {a : Nat → Nat} {o : Nat} {c_now_keys : Nat → Int64} {c_now_seed : Int32} {c_drawn_keys : Nat → Int64} {c_drawn_seed : Int32} {c_pad_signs : Nat → Int32} {c_pad_count c_sights_count : Int32} {c_sights_seeds : Nat → Int64} {c_img0_kept : Int32} {c_img0_world_keys : Nat → Int64} {c_img0_world_seed c_img0_sights_count : Int32} {c_img0_sights_seeds : Nat → Int64} {c_img1_kept : Int32} {c_img1_world_keys : Nat → Int64} {c_img1_world_seed c_img1_sights_count : Int32} {c_img1_sights_seeds : Nat → Int64} {c_trial_act_kind c_trial_act_set c_trial_act_key c_trial_act_other : Int32} {c_trial_tb_left c_trial_tb_right c_trial_tb_parent : Nat → Int32} {c_trial_tb_span : Nat → Int64} {c_trial_tb_root : Int32} {c_trial_tb_digest c_trial_tb_height c_trial_tb_priority : Nat → Int32} {c_trial_tb_pricedBy : Int32} {c_trial_tb_open c_trial_ta_left c_trial_ta_right c_trial_ta_parent : Nat → Int32} {c_trial_ta_span : Nat → Int64} {c_trial_ta_root : Int32} {c_trial_ta_digest c_trial_ta_height c_trial_ta_priority : Nat → Int32} {c_trial_ta_pricedBy : Int32} {c_trial_ta_open : Nat → Int32} {c_trial_after_keys : Nat → Int64} {c_trial_after_seed : Int32} {c_trial_before_keys : Nat → Int64} {c_trial_before_seed c_trial_acts c_trial_whyNot c_trial_work c_trial_alikeAct c_trial_alikePair : Int32} {l1 : Int32} {R : Int32 × Int32 × Int32 × Int32 × Int32 × (Nat → Int32) × (Nat → Int32) × (Nat → Int32) × (Nat → Int64) × Int32 × (Nat → Int32) × (Nat → Int32) × (Nat → Int32) × Int32 × (Nat → Int32) × (Nat → Int32) × (Nat → Int32) × (Nat → Int32) × (Nat → Int64) × Int32 × (Nat → Int32) × (Nat → Int32) × (Nat → Int32) × Int32 × (Nat → Int32) × (Nat → Int64) × Int32 × (Nat → Int64) × Int32 × Int32 × Int32 × Int32 × Int32 × Int32} (h : f_X7_judge c_now_keys c_now_seed c_pad_signs c_pad_count c_trial_act_kind c_trial_act_set c_trial_act_key c_trial_act_other c_trial_tb_left c_trial_tb_right c_trial_tb_parent c_trial_tb_span c_trial_tb_root c_trial_tb_digest c_trial_tb_height c_trial_tb_priority c_trial_tb_pricedBy c_trial_tb_open c_trial_ta_left c_trial_ta_right c_trial_ta_parent c_trial_ta_span c_trial_ta_root c_trial_ta_digest c_trial_ta_height c_trial_ta_priority c_trial_ta_pricedBy c_trial_ta_open c_trial_after_keys c_trial_after_seed c_trial_before_keys c_trial_before_seed c_trial_acts c_trial_whyNot c_trial_work c_trial_alikeAct c_trial_alikePair l1 = some R) : Ret1 l E yX7_judge cX7_judge 3 (some .int) 6 (wX7 E a o c_now_keys c_now_seed c_drawn_keys c_drawn_seed c_pad_signs c_pad_count c_sights_count c_sights_seeds c_img0_kept c_img0_world_keys c_img0_world_seed c_img0_sights_count c_img0_sights_seeds c_img1_kept c_img1_world_keys c_img1_world_seed c_img1_sights_count c_img1_sights_seeds c_trial_act_kind c_trial_act_set c_trial_act_key c_trial_act_other c_trial_tb_left c_trial_tb_right c_trial_tb_parent c_trial_tb_span c_trial_tb_root c_trial_tb_digest c_trial_tb_height c_trial_tb_priority c_trial_tb_pricedBy c_trial_tb_open c_trial_ta_left c_trial_ta_right c_trial_ta_parent c_trial_ta_span c_trial_ta_root c_trial_ta_digest c_trial_ta_height c_trial_ta_priority c_trial_ta_pricedBy c_trial_ta_open c_trial_after_keys c_trial_after_seed c_trial_before_keys c_trial_before_seed c_trial_acts c_trial_whyNot c_trial_work c_trial_alikeAct c_trial_alikePair) [.ref (a o), .int l1] (some (.int R.1)) (wX7 E a o c_now_keys c_now_seed c_drawn_keys c_drawn_seed c_pad_signs c_pad_count c_sights_count c_sights_seeds c_img0_kept c_img0_world_keys c_img0_world_seed c_img0_sights_count c_img0_sights_seeds c_img1_kept c_img1_world_keys c_img1_world_seed c_img1_sights_count c_img1_sights_seeds R.2.1 R.2.2.1 R.2.2.2.1 R.2.2.2.2.1 R.2.2.2.2.2.1 R.2.2.2.2.2.2.1 R.2.2.2.2.2.2.2.1 R.2.2.2.2.2.2.2.2.1 R.2.2.2.2.2.2.2.2.2.1 R.2.2.2.2.2.2.2.2.2.2.1 R.2.2.2.2.2.2.2.2.2.2.2.1 R.2.2.2.2.2.2.2.2.2.2.2.2.1 R.2.2.2.2.2.2.2.2.2.2.2.2.2.1 R.2.2.2.2.2.2.2.2.2.2.2.2.2.2.1 R.2.2.2.2.2.2.2.2.2.2.2.2.2.2.2.1 R.2.2.2.2.2.2.2.2.2.2.2.2.2.2.2.2.1 R.2.2.2.2.2.2.2.2.2.2.2.2.2.2.2.2.2.1 R.2.2.2.2.2.2.2.2.2.2.2.2.2.2.2.2.2.2.1 R.2.2.2.2.2.2.2.2.2.2.2.2.2.2.2.2.2.2.2.1 R.2.2.2.2.2.2.2.2.2.2.2.2.2.2.2.2.2.2.2.2.1 R.2.2.2.2.2.2.2.2.2.2.2.2.2.2.2.2.2.2.2.2.2.1 R.2.2.2.2.2.2.2.2.2.2.2.2.2.2.2.2.2.2.2.2.2.2.1 R.2.2.2.2.2.2.2.2.2.2.2.2.2.2.2.2.2.2.2.2.2.2.2.1 R.2.2.2.2.2.2.2.2.2.2.2.2.2.2.2.2.2.2.2.2.2.2.2.2.1 R.2.2.2.2.2.2.2.2.2.2.2.2.2.2.2.2.2.2.2.2.2.2.2.2.2.1 R.2.2.2.2.2.2.2.2.2.2.2.2.2.2.2.2.2.2.2.2.2.2.2.2.2.2.1 R.2.2.2.2.2.2.2.2.2.2.2.2.2.2.2.2.2.2.2.2.2.2.2.2.2.2.2.1 R.2.2.2.2.2.2.2.2.2.2.2.2.2.2.2.2.2.2.2.2.2.2.2.2.2.2.2.2.1 R.2.2.2.2.2.2.2.2.2.2.2.2.2.2.2.2.2.2.2.2.2.2.2.2.2.2.2.2.2.1 R.2.2.2.2.2.2.2.2.2.2.2.2.2.2.2.2.2.2.2.2.2.2.2.2.2.2.2.2.2.2.1 R.2.2.2.2.2.2.2.2.2.2.2.2.2.2.2.2.2.2.2.2.2.2.2.2.2.2.2.2.2.2.2.1 R.2.2.2.2.2.2.2.2.2.2.2.2.2.2.2.2.2.2.2.2.2.2.2.2.2.2.2.2.2.2.2.2.1 R.2.2.2.2.2.2.2.2.2.2.2.2.2.2.2.2.2.2.2.2.2.2.2.2.2.2.2.2.2.2.2.2.2) := by
  refine Ret.intro (lv := [(0, .ref (a o)), (1, .int l1)]) (by decide) (Nat.le_of_ble_eq_true rfl) rfl ?_
  intro g hgl G hQ
  subst hgl
  rw [f_X7_judge] at h
  refine w_iload_n (pc2 := 1) G 1 rfl dX7_judge_0 rfl rfl ?_
  refine w_if_lt (tgt := 9) (pc2 := 4) G dX7_judge_1 (by decide) rfl (fun cc => ?_) (fun cc => ?_)
  · replace h := (if_pos cc).symm.trans h
    refine w_bipush (pc2 := 11) G dX7_judge_9 k_bipush_m2 rfl ?_
    cases h
    exact w_iret G hQ rfl ⟨rfl, rfl⟩ dX7_judge_11
  · replace h := (if_neg cc).symm.trans h
    refine w_iload_n (pc2 := 5) G 1 rfl dX7_judge_4 rfl rfl ?_
    refine w_iconst (pc2 := 6) G dX7_judge_5 k_iconst_2 rfl ?_
    refine w_icmp_le (tgt := 12) (pc2 := 9) G dX7_judge_6 (by decide) rfl (fun cc => ?_) (fun cc => ?_)
    · replace h := (if_pos cc).symm.trans h
      refine w_aload_n (pc2 := 13) G 0 rfl dX7_judge_12 rfl rfl ?_
      obtain ⟨x1, H_x1, h⟩ := bs h
      refine w_cV0 (pc2 := 16) (ws2 := (wX7 E a o c_now_keys c_now_seed c_drawn_keys c_drawn_seed c_pad_signs c_pad_count c_sights_count c_sights_seeds c_img0_kept c_img0_world_keys c_img0_world_seed c_img0_sights_count c_img0_sights_seeds c_img1_kept c_img1_world_keys c_img1_world_seed c_img1_sights_count c_img1_sights_seeds x1.2.1 x1.2.2.1 x1.2.2.2.1 x1.2.2.2.2.1 x1.2.2.2.2.2.1 x1.2.2.2.2.2.2.1 x1.2.2.2.2.2.2.2.1 x1.2.2.2.2.2.2.2.2.1 x1.2.2.2.2.2.2.2.2.2.1 x1.2.2.2.2.2.2.2.2.2.2.1 x1.2.2.2.2.2.2.2.2.2.2.2.1 x1.2.2.2.2.2.2.2.2.2.2.2.2.1 x1.2.2.2.2.2.2.2.2.2.2.2.2.2.1 x1.2.2.2.2.2.2.2.2.2.2.2.2.2.2.1 x1.2.2.2.2.2.2.2.2.2.2.2.2.2.2.2.1 x1.2.2.2.2.2.2.2.2.2.2.2.2.2.2.2.2.1 x1.2.2.2.2.2.2.2.2.2.2.2.2.2.2.2.2.2.1 x1.2.2.2.2.2.2.2.2.2.2.2.2.2.2.2.2.2.2.1 x1.2.2.2.2.2.2.2.2.2.2.2.2.2.2.2.2.2.2.2.1 x1.2.2.2.2.2.2.2.2.2.2.2.2.2.2.2.2.2.2.2.2.1 x1.2.2.2.2.2.2.2.2.2.2.2.2.2.2.2.2.2.2.2.2.2.1 x1.2.2.2.2.2.2.2.2.2.2.2.2.2.2.2.2.2.2.2.2.2.2.1 x1.2.2.2.2.2.2.2.2.2.2.2.2.2.2.2.2.2.2.2.2.2.2.2.1 x1.2.2.2.2.2.2.2.2.2.2.2.2.2.2.2.2.2.2.2.2.2.2.2.2.1 x1.2.2.2.2.2.2.2.2.2.2.2.2.2.2.2.2.2.2.2.2.2.2.2.2.2.1 x1.2.2.2.2.2.2.2.2.2.2.2.2.2.2.2.2.2.2.2.2.2.2.2.2.2.2.1 x1.2.2.2.2.2.2.2.2.2.2.2.2.2.2.2.2.2.2.2.2.2.2.2.2.2.2.2.1 x1.2.2.2.2.2.2.2.2.2.2.2.2.2.2.2.2.2.2.2.2.2.2.2.2.2.2.2.2.1 x1.2.2.2.2.2.2.2.2.2.2.2.2.2.2.2.2.2.2.2.2.2.2.2.2.2.2.2.2.2.1 x1.2.2.2.2.2.2.2.2.2.2.2.2.2.2.2.2.2.2.2.2.2.2.2.2.2.2.2.2.2.2.1 x1.2.2.2.2.2.2.2.2.2.2.2.2.2.2.2.2.2.2.2.2.2.2.2.2.2.2.2.2.2.2.2.1 x1.2.2.2.2.2.2.2.2.2.2.2.2.2.2.2.2.2.2.2.2.2.2.2.2.2.2.2.2.2.2.2.2.1 x1.2.2.2.2.2.2.2.2.2.2.2.2.2.2.2.2.2.2.2.2.2.2.2.2.2.2.2.2.2.2.2.2.2)) (As := []) (rest := []) G koX7_109 (r_X7_tryActs H_x1) (Nat.le_of_ble_eq_true rfl) 7 rfl rfl rfl rfl (Nat.le_of_ble_eq_true rfl) ⟨Nat.zero_le _, Nat.zero_le _⟩ dX7_judge_13 rfl rfl ?_
      refine w_istore_n (pc2 := 17) (lv2 := [(2, .int x1.1), (0, .ref (a o)), (1, .int l1)]) G dX7_judge_16 rfl (Nat.le_of_ble_eq_true rfl) rfl rfl ?_
      refine w_iload_n (pc2 := 18) G 0 rfl dX7_judge_17 rfl rfl ?_
      refine w_bipush (pc2 := 20) G dX7_judge_18 k_bipush_m5 rfl ?_
      refine w_icmp_eq (tgt := 28) (pc2 := 23) G dX7_judge_20 (by decide) rfl (fun cc => ?_) (fun cc => ?_)
      · replace h := (if_pos cc).symm.trans h
        refine w_iload_n (pc2 := 29) G 0 rfl dX7_judge_28 rfl rfl ?_
        refine w_if_eq (tgt := 36) (pc2 := 32) G dX7_judge_29 (by decide) rfl (fun cc => ?_) (fun cc => ?_)
        · replace h := (if_pos cc).symm.trans h
          refine w_aload_n (pc2 := 37) G 1 rfl dX7_judge_36 rfl rfl ?_
          refine w_get (pc2 := 40) G foX7_42 0 rfl rfl dX7_judge_37 rfl ?_
          refine w_get (pc2 := 43) G foX7_112 20 rfl rfl dX7_judge_40 rfl ?_
          cases h
          exact w_iret G hQ rfl ⟨rfl, rfl⟩ dX7_judge_43
        · replace h := (if_neg cc).symm.trans h
          refine w_iload_n (pc2 := 33) G 0 rfl dX7_judge_32 rfl rfl ?_
          refine w_goto (tgt := 43) G dX7_judge_33 (by decide) ?_
          cases h
          exact w_iret G hQ rfl ⟨rfl, rfl⟩ dX7_judge_43
      · replace h := (if_neg cc).symm.trans h
        refine w_iload_n (pc2 := 24) G 2 rfl dX7_judge_23 rfl rfl ?_
        refine w_iconst (pc2 := 25) G dX7_judge_24 k_iconst_2 rfl ?_
        refine w_icmp_ne (tgt := 44) (pc2 := 28) G dX7_judge_25 (by decide) rfl (fun cc => ?_) (fun cc => ?_)
        · replace h := (if_neg cc).symm.trans h
          refine w_iload_n (pc2 := 45) G 0 rfl dX7_judge_44 rfl rfl ?_
          refine w_if_ne (tgt := 51) (pc2 := 48) G dX7_judge_45 (by decide) rfl (fun cc => ?_) (fun cc => ?_)
          · replace h := (if_neg cc).symm.trans h
            refine w_iload_n (pc2 := 52) G 2 rfl dX7_judge_51 rfl rfl ?_
            refine w_if_ne (tgt := 65) (pc2 := 55) G dX7_judge_52 (by decide) rfl (fun cc => ?_) (fun cc => ?_)
            · replace h := (if_neg cc).symm.trans h
              refine w_aload_n (pc2 := 66) G 1 rfl dX7_judge_65 rfl rfl ?_
              refine w_get (pc2 := 69) G foX7_42 0 rfl rfl dX7_judge_66 rfl ?_
              refine w_get (pc2 := 72) G foX7_118 20 rfl rfl dX7_judge_69 rfl ?_
              cases h
              exact w_iret G hQ rfl ⟨rfl, rfl⟩ dX7_judge_72
            · replace h := (if_pos cc).symm.trans h
              refine w_aload_n (pc2 := 56) G 1 rfl dX7_judge_55 rfl rfl ?_
              refine w_get (pc2 := 59) G foX7_42 0 rfl rfl dX7_judge_56 rfl ?_
              refine w_get (pc2 := 62) G foX7_115 20 rfl rfl dX7_judge_59 rfl ?_
              refine w_goto (tgt := 72) G dX7_judge_62 (by decide) ?_
              cases h
              exact w_iret G hQ rfl ⟨rfl, rfl⟩ dX7_judge_72
          · replace h := (if_pos cc).symm.trans h
            refine w_bipush (pc2 := 50) G dX7_judge_48 k_bipush_m6 rfl ?_
            cases h
            exact w_iret G hQ rfl ⟨rfl, rfl⟩ dX7_judge_50
        · replace h := (if_pos cc).symm.trans h
          refine w_iload_n (pc2 := 29) G 0 rfl dX7_judge_28 rfl rfl ?_
          refine w_if_eq (tgt := 36) (pc2 := 32) G dX7_judge_29 (by decide) rfl (fun cc => ?_) (fun cc => ?_)
          · replace h := (if_pos cc).symm.trans h
            refine w_aload_n (pc2 := 37) G 1 rfl dX7_judge_36 rfl rfl ?_
            refine w_get (pc2 := 40) G foX7_42 0 rfl rfl dX7_judge_37 rfl ?_
            refine w_get (pc2 := 43) G foX7_112 20 rfl rfl dX7_judge_40 rfl ?_
            cases h
            exact w_iret G hQ rfl ⟨rfl, rfl⟩ dX7_judge_43
          · replace h := (if_neg cc).symm.trans h
            refine w_iload_n (pc2 := 33) G 0 rfl dX7_judge_32 rfl rfl ?_
            refine w_goto (tgt := 43) G dX7_judge_33 (by decide) ?_
            cases h
            exact w_iret G hQ rfl ⟨rfl, rfl⟩ dX7_judge_43
    · replace h := (if_neg cc).symm.trans h
      refine w_bipush (pc2 := 11) G dX7_judge_9 k_bipush_m2 rfl ?_
      cases h
      exact w_iret G hQ rfl ⟨rfl, rfl⟩ dX7_judge_11

set_option maxHeartbeats 4000000 in
set_option maxRecDepth 100000 in
theorem r_X7_behind {l : Launch} {E : EV} {a : Nat → Nat} {o : Nat} {c_now_keys : Nat → Int64} {c_now_seed : Int32} {c_drawn_keys : Nat → Int64} {c_drawn_seed : Int32} {c_pad_signs : Nat → Int32} {c_pad_count c_sights_count : Int32} {c_sights_seeds : Nat → Int64} {c_img0_kept : Int32} {c_img0_world_keys : Nat → Int64} {c_img0_world_seed c_img0_sights_count : Int32} {c_img0_sights_seeds : Nat → Int64} {c_img1_kept : Int32} {c_img1_world_keys : Nat → Int64} {c_img1_world_seed c_img1_sights_count : Int32} {c_img1_sights_seeds : Nat → Int64} {c_trial_act_kind c_trial_act_set c_trial_act_key c_trial_act_other : Int32} {c_trial_tb_left c_trial_tb_right c_trial_tb_parent : Nat → Int32} {c_trial_tb_span : Nat → Int64} {c_trial_tb_root : Int32} {c_trial_tb_digest c_trial_tb_height c_trial_tb_priority : Nat → Int32} {c_trial_tb_pricedBy : Int32} {c_trial_tb_open c_trial_ta_left c_trial_ta_right c_trial_ta_parent : Nat → Int32} {c_trial_ta_span : Nat → Int64} {c_trial_ta_root : Int32} {c_trial_ta_digest c_trial_ta_height c_trial_ta_priority : Nat → Int32} {c_trial_ta_pricedBy : Int32} {c_trial_ta_open : Nat → Int32} {c_trial_after_keys : Nat → Int64} {c_trial_after_seed : Int32} {c_trial_before_keys : Nat → Int64} {c_trial_before_seed c_trial_acts c_trial_whyNot c_trial_work c_trial_alikeAct c_trial_alikePair : Int32} {l1 : Int32} {l2 : Int32} {R : Int32 × Int32 × Int32 × Int32 × Int32 × (Nat → Int32) × (Nat → Int32) × (Nat → Int32) × (Nat → Int64) × Int32 × (Nat → Int32) × (Nat → Int32) × (Nat → Int32) × Int32 × (Nat → Int32) × (Nat → Int32) × (Nat → Int32) × (Nat → Int32) × (Nat → Int64) × Int32 × (Nat → Int32) × (Nat → Int32) × (Nat → Int32) × Int32 × (Nat → Int32) × (Nat → Int64) × Int32 × (Nat → Int64) × Int32 × Int32 × Int32 × Int32 × Int32 × Int32} (h : f_X7_behind c_now_keys c_now_seed c_pad_signs c_pad_count c_trial_act_kind c_trial_act_set c_trial_act_key c_trial_act_other c_trial_tb_left c_trial_tb_right c_trial_tb_parent c_trial_tb_span c_trial_tb_root c_trial_tb_digest c_trial_tb_height c_trial_tb_priority c_trial_tb_pricedBy c_trial_tb_open c_trial_ta_left c_trial_ta_right c_trial_ta_parent c_trial_ta_span c_trial_ta_root c_trial_ta_digest c_trial_ta_height c_trial_ta_priority c_trial_ta_pricedBy c_trial_ta_open c_trial_after_keys c_trial_after_seed c_trial_before_keys c_trial_before_seed c_trial_acts c_trial_whyNot c_trial_work c_trial_alikeAct c_trial_alikePair l1 l2 = some R) : Ret1 l E yX7_behind cX7_behind 4 (some .int) 6 (wX7 E a o c_now_keys c_now_seed c_drawn_keys c_drawn_seed c_pad_signs c_pad_count c_sights_count c_sights_seeds c_img0_kept c_img0_world_keys c_img0_world_seed c_img0_sights_count c_img0_sights_seeds c_img1_kept c_img1_world_keys c_img1_world_seed c_img1_sights_count c_img1_sights_seeds c_trial_act_kind c_trial_act_set c_trial_act_key c_trial_act_other c_trial_tb_left c_trial_tb_right c_trial_tb_parent c_trial_tb_span c_trial_tb_root c_trial_tb_digest c_trial_tb_height c_trial_tb_priority c_trial_tb_pricedBy c_trial_tb_open c_trial_ta_left c_trial_ta_right c_trial_ta_parent c_trial_ta_span c_trial_ta_root c_trial_ta_digest c_trial_ta_height c_trial_ta_priority c_trial_ta_pricedBy c_trial_ta_open c_trial_after_keys c_trial_after_seed c_trial_before_keys c_trial_before_seed c_trial_acts c_trial_whyNot c_trial_work c_trial_alikeAct c_trial_alikePair) [.ref (a o), .int l1, .int l2] (some (.int R.1)) (wX7 E a o c_now_keys c_now_seed c_drawn_keys c_drawn_seed c_pad_signs c_pad_count c_sights_count c_sights_seeds c_img0_kept c_img0_world_keys c_img0_world_seed c_img0_sights_count c_img0_sights_seeds c_img1_kept c_img1_world_keys c_img1_world_seed c_img1_sights_count c_img1_sights_seeds R.2.1 R.2.2.1 R.2.2.2.1 R.2.2.2.2.1 R.2.2.2.2.2.1 R.2.2.2.2.2.2.1 R.2.2.2.2.2.2.2.1 R.2.2.2.2.2.2.2.2.1 R.2.2.2.2.2.2.2.2.2.1 R.2.2.2.2.2.2.2.2.2.2.1 R.2.2.2.2.2.2.2.2.2.2.2.1 R.2.2.2.2.2.2.2.2.2.2.2.2.1 R.2.2.2.2.2.2.2.2.2.2.2.2.2.1 R.2.2.2.2.2.2.2.2.2.2.2.2.2.2.1 R.2.2.2.2.2.2.2.2.2.2.2.2.2.2.2.1 R.2.2.2.2.2.2.2.2.2.2.2.2.2.2.2.2.1 R.2.2.2.2.2.2.2.2.2.2.2.2.2.2.2.2.2.1 R.2.2.2.2.2.2.2.2.2.2.2.2.2.2.2.2.2.2.1 R.2.2.2.2.2.2.2.2.2.2.2.2.2.2.2.2.2.2.2.1 R.2.2.2.2.2.2.2.2.2.2.2.2.2.2.2.2.2.2.2.2.1 R.2.2.2.2.2.2.2.2.2.2.2.2.2.2.2.2.2.2.2.2.2.1 R.2.2.2.2.2.2.2.2.2.2.2.2.2.2.2.2.2.2.2.2.2.2.1 R.2.2.2.2.2.2.2.2.2.2.2.2.2.2.2.2.2.2.2.2.2.2.2.1 R.2.2.2.2.2.2.2.2.2.2.2.2.2.2.2.2.2.2.2.2.2.2.2.2.1 R.2.2.2.2.2.2.2.2.2.2.2.2.2.2.2.2.2.2.2.2.2.2.2.2.2.1 R.2.2.2.2.2.2.2.2.2.2.2.2.2.2.2.2.2.2.2.2.2.2.2.2.2.2.1 R.2.2.2.2.2.2.2.2.2.2.2.2.2.2.2.2.2.2.2.2.2.2.2.2.2.2.2.1 R.2.2.2.2.2.2.2.2.2.2.2.2.2.2.2.2.2.2.2.2.2.2.2.2.2.2.2.2.1 R.2.2.2.2.2.2.2.2.2.2.2.2.2.2.2.2.2.2.2.2.2.2.2.2.2.2.2.2.2.1 R.2.2.2.2.2.2.2.2.2.2.2.2.2.2.2.2.2.2.2.2.2.2.2.2.2.2.2.2.2.2.1 R.2.2.2.2.2.2.2.2.2.2.2.2.2.2.2.2.2.2.2.2.2.2.2.2.2.2.2.2.2.2.2.1 R.2.2.2.2.2.2.2.2.2.2.2.2.2.2.2.2.2.2.2.2.2.2.2.2.2.2.2.2.2.2.2.2.1 R.2.2.2.2.2.2.2.2.2.2.2.2.2.2.2.2.2.2.2.2.2.2.2.2.2.2.2.2.2.2.2.2.2) := by
  refine Ret.intro (lv := [(0, .ref (a o)), (1, .int l1), (2, .int l2)]) (by decide) (Nat.le_of_ble_eq_true rfl) rfl ?_
  intro g hgl G hQ
  subst hgl
  rw [f_X7_behind] at h
  refine w_iload_n (pc2 := 1) G 1 rfl dX7_behind_0 rfl rfl ?_
  obtain ⟨x1, H_x1, h⟩ := bs h
  refine w_cS0 (pc2 := 4) (As := [.int l1]) (rest := []) G koX7_73 (r_X7_isSet H_x1) (Nat.le_of_ble_eq_true rfl) rfl rfl (Nat.le_of_ble_eq_true rfl) ⟨Nat.zero_le _, Nat.zero_le _⟩ dX7_behind_1 rfl rfl ?_
  refine w_if_ne (tgt := 9) (pc2 := 7) G dX7_behind_4 (by decide) rfl (fun cc => ?_) (fun cc => ?_)
  · replace h := (if_neg cc).symm.trans h
    refine w_iload_n (pc2 := 10) G 2 rfl dX7_behind_9 rfl rfl ?_
    refine w_if_lt (tgt := 18) (pc2 := 13) G dX7_behind_10 (by decide) rfl (fun cc => ?_) (fun cc => ?_)
    · replace h := (if_pos cc).symm.trans h
      refine w_bipush (pc2 := 20) G dX7_behind_18 k_bipush_m2 rfl ?_
      cases h
      exact w_iret G hQ rfl ⟨rfl, rfl⟩ dX7_behind_20
    · replace h := (if_neg cc).symm.trans h
      refine w_iload_n (pc2 := 14) G 2 rfl dX7_behind_13 rfl rfl ?_
      refine w_iconst (pc2 := 15) G dX7_behind_14 k_iconst_3 rfl ?_
      refine w_icmp_le (tgt := 21) (pc2 := 18) G dX7_behind_15 (by decide) rfl (fun cc => ?_) (fun cc => ?_)
      · replace h := (if_pos cc).symm.trans h
        refine w_aload_n (pc2 := 22) G 0 rfl dX7_behind_21 rfl rfl ?_
        obtain ⟨x2, H_x2, h⟩ := bs h
        refine w_cV0 (pc2 := 25) (ws2 := (wX7 E a o c_now_keys c_now_seed c_drawn_keys c_drawn_seed c_pad_signs c_pad_count c_sights_count c_sights_seeds c_img0_kept c_img0_world_keys c_img0_world_seed c_img0_sights_count c_img0_sights_seeds c_img1_kept c_img1_world_keys c_img1_world_seed c_img1_sights_count c_img1_sights_seeds x2.2.1 x2.2.2.1 x2.2.2.2.1 x2.2.2.2.2.1 x2.2.2.2.2.2.1 x2.2.2.2.2.2.2.1 x2.2.2.2.2.2.2.2.1 x2.2.2.2.2.2.2.2.2.1 x2.2.2.2.2.2.2.2.2.2.1 x2.2.2.2.2.2.2.2.2.2.2.1 x2.2.2.2.2.2.2.2.2.2.2.2.1 x2.2.2.2.2.2.2.2.2.2.2.2.2.1 x2.2.2.2.2.2.2.2.2.2.2.2.2.2.1 x2.2.2.2.2.2.2.2.2.2.2.2.2.2.2.1 x2.2.2.2.2.2.2.2.2.2.2.2.2.2.2.2.1 x2.2.2.2.2.2.2.2.2.2.2.2.2.2.2.2.2.1 x2.2.2.2.2.2.2.2.2.2.2.2.2.2.2.2.2.2.1 x2.2.2.2.2.2.2.2.2.2.2.2.2.2.2.2.2.2.2.1 x2.2.2.2.2.2.2.2.2.2.2.2.2.2.2.2.2.2.2.2.1 x2.2.2.2.2.2.2.2.2.2.2.2.2.2.2.2.2.2.2.2.2.1 x2.2.2.2.2.2.2.2.2.2.2.2.2.2.2.2.2.2.2.2.2.2.1 x2.2.2.2.2.2.2.2.2.2.2.2.2.2.2.2.2.2.2.2.2.2.2.1 x2.2.2.2.2.2.2.2.2.2.2.2.2.2.2.2.2.2.2.2.2.2.2.2.1 x2.2.2.2.2.2.2.2.2.2.2.2.2.2.2.2.2.2.2.2.2.2.2.2.2.1 x2.2.2.2.2.2.2.2.2.2.2.2.2.2.2.2.2.2.2.2.2.2.2.2.2.2.1 x2.2.2.2.2.2.2.2.2.2.2.2.2.2.2.2.2.2.2.2.2.2.2.2.2.2.2.1 x2.2.2.2.2.2.2.2.2.2.2.2.2.2.2.2.2.2.2.2.2.2.2.2.2.2.2.2.1 x2.2.2.2.2.2.2.2.2.2.2.2.2.2.2.2.2.2.2.2.2.2.2.2.2.2.2.2.2.1 x2.2.2.2.2.2.2.2.2.2.2.2.2.2.2.2.2.2.2.2.2.2.2.2.2.2.2.2.2.2.1 x2.2.2.2.2.2.2.2.2.2.2.2.2.2.2.2.2.2.2.2.2.2.2.2.2.2.2.2.2.2.2.1 x2.2.2.2.2.2.2.2.2.2.2.2.2.2.2.2.2.2.2.2.2.2.2.2.2.2.2.2.2.2.2.2.1 x2.2.2.2.2.2.2.2.2.2.2.2.2.2.2.2.2.2.2.2.2.2.2.2.2.2.2.2.2.2.2.2.2.1 x2.2.2.2.2.2.2.2.2.2.2.2.2.2.2.2.2.2.2.2.2.2.2.2.2.2.2.2.2.2.2.2.2.2)) (As := []) (rest := []) G koX7_109 (r_X7_tryActs H_x2) (Nat.le_of_ble_eq_true rfl) 7 rfl rfl rfl rfl (Nat.le_of_ble_eq_true rfl) ⟨Nat.zero_le _, Nat.zero_le _⟩ dX7_behind_22 rfl rfl ?_
        refine w_istore_n (pc2 := 26) (lv2 := [(3, .int x2.1), (0, .ref (a o)), (1, .int l1), (2, .int l2)]) G dX7_behind_25 rfl (Nat.le_of_ble_eq_true rfl) rfl rfl ?_
        refine w_iload_n (pc2 := 27) G 0 rfl dX7_behind_26 rfl rfl ?_
        refine w_if_eq (tgt := 32) (pc2 := 30) G dX7_behind_27 (by decide) rfl (fun cc => ?_) (fun cc => ?_)
        · replace h := (if_pos cc).symm.trans h
          refine w_aload_n (pc2 := 33) G 1 rfl dX7_behind_32 rfl rfl ?_
          refine w_get (pc2 := 36) G foX7_55 0 rfl rfl dX7_behind_33 rfl ?_
          refine w_aload_n (pc2 := 37) G 1 rfl dX7_behind_36 rfl rfl ?_
          refine w_get (pc2 := 40) G foX7_42 0 rfl rfl dX7_behind_37 rfl ?_
          refine w_get (pc2 := 43) G foX7_121 20 rfl rfl dX7_behind_40 rfl ?_
          refine w_get (pc2 := 46) G foX7_79 40 rfl rfl dX7_behind_43 rfl ?_
          refine w_iload_n (pc2 := 47) G 2 rfl dX7_behind_46 rfl rfl ?_
          obtain ⟨v3, H_v3, h⟩ := bs h
          refine w_laldo (pc2 := 48) G 41 rfl H_v3 dX7_behind_47 rfl ?_
          refine w_aload_n (pc2 := 49) G 1 rfl dX7_behind_48 rfl rfl ?_
          refine w_get (pc2 := 52) G foX7_42 0 rfl rfl dX7_behind_49 rfl ?_
          refine w_get (pc2 := 55) G foX7_121 20 rfl rfl dX7_behind_52 rfl ?_
          refine w_get (pc2 := 58) G foX7_69 40 rfl rfl dX7_behind_55 rfl ?_
          obtain ⟨x4, H_x4, h⟩ := bs h
          refine w_cV1 (pc2 := 61) (ws2 := (wX7 E a o c_now_keys c_now_seed c_drawn_keys c_drawn_seed c_pad_signs c_pad_count c_sights_count c_sights_seeds c_img0_kept c_img0_world_keys c_img0_world_seed c_img0_sights_count c_img0_sights_seeds c_img1_kept c_img1_world_keys c_img1_world_seed c_img1_sights_count c_img1_sights_seeds x2.2.1 x2.2.2.1 x2.2.2.2.1 x2.2.2.2.2.1 x4.1 x4.2.1 x4.2.2.1 x4.2.2.2.1 x4.2.2.2.2.1 x4.2.2.2.2.2.1 x4.2.2.2.2.2.2.1 x4.2.2.2.2.2.2.2.1 x4.2.2.2.2.2.2.2.2.1 x4.2.2.2.2.2.2.2.2.2 x2.2.2.2.2.2.2.2.2.2.2.2.2.2.2.2.1 x2.2.2.2.2.2.2.2.2.2.2.2.2.2.2.2.2.1 x2.2.2.2.2.2.2.2.2.2.2.2.2.2.2.2.2.2.1 x2.2.2.2.2.2.2.2.2.2.2.2.2.2.2.2.2.2.2.1 x2.2.2.2.2.2.2.2.2.2.2.2.2.2.2.2.2.2.2.2.1 x2.2.2.2.2.2.2.2.2.2.2.2.2.2.2.2.2.2.2.2.2.1 x2.2.2.2.2.2.2.2.2.2.2.2.2.2.2.2.2.2.2.2.2.2.1 x2.2.2.2.2.2.2.2.2.2.2.2.2.2.2.2.2.2.2.2.2.2.2.1 x2.2.2.2.2.2.2.2.2.2.2.2.2.2.2.2.2.2.2.2.2.2.2.2.1 x2.2.2.2.2.2.2.2.2.2.2.2.2.2.2.2.2.2.2.2.2.2.2.2.2.1 x2.2.2.2.2.2.2.2.2.2.2.2.2.2.2.2.2.2.2.2.2.2.2.2.2.2.1 x2.2.2.2.2.2.2.2.2.2.2.2.2.2.2.2.2.2.2.2.2.2.2.2.2.2.2.1 x2.2.2.2.2.2.2.2.2.2.2.2.2.2.2.2.2.2.2.2.2.2.2.2.2.2.2.2.1 x2.2.2.2.2.2.2.2.2.2.2.2.2.2.2.2.2.2.2.2.2.2.2.2.2.2.2.2.2.1 x2.2.2.2.2.2.2.2.2.2.2.2.2.2.2.2.2.2.2.2.2.2.2.2.2.2.2.2.2.2.1 x2.2.2.2.2.2.2.2.2.2.2.2.2.2.2.2.2.2.2.2.2.2.2.2.2.2.2.2.2.2.2.1 x2.2.2.2.2.2.2.2.2.2.2.2.2.2.2.2.2.2.2.2.2.2.2.2.2.2.2.2.2.2.2.2.1 x2.2.2.2.2.2.2.2.2.2.2.2.2.2.2.2.2.2.2.2.2.2.2.2.2.2.2.2.2.2.2.2.2.1 x2.2.2.2.2.2.2.2.2.2.2.2.2.2.2.2.2.2.2.2.2.2.2.2.2.2.2.2.2.2.2.2.2.2)) (As := [.long v3, .int x2.2.2.2.2.2.2.2.2.2.2.2.2.2.2.2.2.2.2.2.2.2.2.2.2.2.2.1]) (rest := []) G koX7_124 (r_X4_grow (o := (o + 22)) H_x4) (Nat.le_of_ble_eq_true rfl) 4 rfl rfl [22, 23, 24, 25, 26, 27, 28, 29, 30] [0, 1, 2, 3, 4, 5, 6, 7, 8, 9, 10, 11, 12, 13, 14, 15, 16, 17, 18, 19, 20, 21, 31, 32, 33, 34, 35, 36, 37, 38, 39, 40, 41, 42, 43] [0, 1, 2, 3, 4, 5, 6, 7, 8, 9, 10, 11, 12, 13, 14, 15, 16, 17, 18, 19, 20, 21, 35, 36, 37, 38, 39, 40, 41, 42, 43, 22, 23, 24, 25, 26, 27, 28, 29, 30, 31, 32, 33, 34] rfl rfl rfl rfl rfl rfl rfl rfl rfl (Nat.le_of_ble_eq_true rfl) ⟨Nat.zero_le _, Nat.zero_le _⟩ dX7_behind_58 rfl rfl ?_
          refine w_iload_n (pc2 := 62) G 3 rfl dX7_behind_61 rfl rfl ?_
          by_cases sdX7_behind_62_0 : l2 = (0 : Int32)
          · replace h := (if_pos sdX7_behind_62_0).symm.trans h
            refine w_tabIn (tgt := 88) G sdX7_behind_62_0 dX7_behind_62 (by decide) (by decide) rfl (by decide) ?_
            refine w_aload_n (pc2 := 89) G 1 rfl dX7_behind_88 rfl rfl ?_
            refine w_get (pc2 := 92) G foX7_55 0 rfl rfl dX7_behind_89 rfl ?_
            refine w_aload_n (pc2 := 93) G 1 rfl dX7_behind_92 rfl rfl ?_
            refine w_get (pc2 := 96) G foX7_55 0 rfl rfl dX7_behind_93 rfl ?_
            refine w_get (pc2 := 99) G foX7_130 22 rfl rfl dX7_behind_96 rfl ?_
            obtain ⟨x5, H_x5, h⟩ := bs h
            refine w_cV1 (pc2 := 102) (ws2 := (wX7 E a o c_now_keys c_now_seed c_drawn_keys c_drawn_seed c_pad_signs c_pad_count c_sights_count c_sights_seeds c_img0_kept c_img0_world_keys c_img0_world_seed c_img0_sights_count c_img0_sights_seeds c_img1_kept c_img1_world_keys c_img1_world_seed c_img1_sights_count c_img1_sights_seeds x2.2.1 x2.2.2.1 x2.2.2.2.1 x2.2.2.2.2.1 x4.1 x4.2.1 x4.2.2.1 x4.2.2.2.1 x4.2.2.2.2.1 x4.2.2.2.2.2.1 x4.2.2.2.2.2.2.1 x4.2.2.2.2.2.2.2.1 x4.2.2.2.2.2.2.2.2.1 x4.2.2.2.2.2.2.2.2.2 x2.2.2.2.2.2.2.2.2.2.2.2.2.2.2.2.1 x2.2.2.2.2.2.2.2.2.2.2.2.2.2.2.2.2.1 x2.2.2.2.2.2.2.2.2.2.2.2.2.2.2.2.2.2.1 x2.2.2.2.2.2.2.2.2.2.2.2.2.2.2.2.2.2.2.1 x2.2.2.2.2.2.2.2.2.2.2.2.2.2.2.2.2.2.2.2.1 x2.2.2.2.2.2.2.2.2.2.2.2.2.2.2.2.2.2.2.2.2.1 x2.2.2.2.2.2.2.2.2.2.2.2.2.2.2.2.2.2.2.2.2.2.1 x2.2.2.2.2.2.2.2.2.2.2.2.2.2.2.2.2.2.2.2.2.2.2.1 x2.2.2.2.2.2.2.2.2.2.2.2.2.2.2.2.2.2.2.2.2.2.2.2.1 x2.2.2.2.2.2.2.2.2.2.2.2.2.2.2.2.2.2.2.2.2.2.2.2.2.1 x2.2.2.2.2.2.2.2.2.2.2.2.2.2.2.2.2.2.2.2.2.2.2.2.2.2.1 x2.2.2.2.2.2.2.2.2.2.2.2.2.2.2.2.2.2.2.2.2.2.2.2.2.2.2.1 x2.2.2.2.2.2.2.2.2.2.2.2.2.2.2.2.2.2.2.2.2.2.2.2.2.2.2.2.1 x2.2.2.2.2.2.2.2.2.2.2.2.2.2.2.2.2.2.2.2.2.2.2.2.2.2.2.2.2.1 x2.2.2.2.2.2.2.2.2.2.2.2.2.2.2.2.2.2.2.2.2.2.2.2.2.2.2.2.2.2.1 x2.2.2.2.2.2.2.2.2.2.2.2.2.2.2.2.2.2.2.2.2.2.2.2.2.2.2.2.2.2.2.1 x2.2.2.2.2.2.2.2.2.2.2.2.2.2.2.2.2.2.2.2.2.2.2.2.2.2.2.2.2.2.2.2.1 x2.2.2.2.2.2.2.2.2.2.2.2.2.2.2.2.2.2.2.2.2.2.2.2.2.2.2.2.2.2.2.2.2.1 x2.2.2.2.2.2.2.2.2.2.2.2.2.2.2.2.2.2.2.2.2.2.2.2.2.2.2.2.2.2.2.2.2.2)) (As := [.int x4.2.2.2.2.1]) (rest := []) G koX7_133 (r_X4_sizeBelow (o := (o + 22)) H_x5) (Nat.le_of_ble_eq_true rfl) 4 rfl rfl [22, 23, 24, 25, 26, 27, 28, 29, 30] [0, 1, 2, 3, 4, 5, 6, 7, 8, 9, 10, 11, 12, 13, 14, 15, 16, 17, 18, 19, 20, 21, 31, 32, 33, 34, 35, 36, 37, 38, 39, 40, 41, 42, 43] [0, 1, 2, 3, 4, 5, 6, 7, 8, 9, 10, 11, 12, 13, 14, 15, 16, 17, 18, 19, 20, 21, 35, 36, 37, 38, 39, 40, 41, 42, 43, 22, 23, 24, 25, 26, 27, 28, 29, 30, 31, 32, 33, 34] rfl rfl rfl rfl rfl rfl rfl rfl rfl (Nat.le_of_ble_eq_true rfl) ⟨Nat.zero_le _, Nat.zero_le _⟩ dX7_behind_99 rfl rfl ?_
            cases h
            exact w_iret G hQ rfl ⟨rfl, rfl⟩ dX7_behind_102
          replace h := (if_neg sdX7_behind_62_0).symm.trans h
          by_cases sdX7_behind_62_1 : l2 = (1 : Int32)
          · replace h := (if_pos sdX7_behind_62_1).symm.trans h
            refine w_tabIn (tgt := 103) G sdX7_behind_62_1 dX7_behind_62 (by decide) (by decide) rfl (by decide) ?_
            refine w_aload_n (pc2 := 104) G 1 rfl dX7_behind_103 rfl rfl ?_
            refine w_get (pc2 := 107) G foX7_55 0 rfl rfl dX7_behind_104 rfl ?_
            refine w_aload_n (pc2 := 108) G 1 rfl dX7_behind_107 rfl rfl ?_
            refine w_get (pc2 := 111) G foX7_55 0 rfl rfl dX7_behind_108 rfl ?_
            refine w_get (pc2 := 114) G foX7_130 22 rfl rfl dX7_behind_111 rfl ?_
            obtain ⟨x6, H_x6, h⟩ := bs h
            refine w_cV1 (pc2 := 117) (ws2 := (wX7 E a o c_now_keys c_now_seed c_drawn_keys c_drawn_seed c_pad_signs c_pad_count c_sights_count c_sights_seeds c_img0_kept c_img0_world_keys c_img0_world_seed c_img0_sights_count c_img0_sights_seeds c_img1_kept c_img1_world_keys c_img1_world_seed c_img1_sights_count c_img1_sights_seeds x2.2.1 x2.2.2.1 x2.2.2.2.1 x2.2.2.2.2.1 x4.1 x4.2.1 x4.2.2.1 x4.2.2.2.1 x4.2.2.2.2.1 x4.2.2.2.2.2.1 x4.2.2.2.2.2.2.1 x4.2.2.2.2.2.2.2.1 x4.2.2.2.2.2.2.2.2.1 x4.2.2.2.2.2.2.2.2.2 x2.2.2.2.2.2.2.2.2.2.2.2.2.2.2.2.1 x2.2.2.2.2.2.2.2.2.2.2.2.2.2.2.2.2.1 x2.2.2.2.2.2.2.2.2.2.2.2.2.2.2.2.2.2.1 x2.2.2.2.2.2.2.2.2.2.2.2.2.2.2.2.2.2.2.1 x2.2.2.2.2.2.2.2.2.2.2.2.2.2.2.2.2.2.2.2.1 x2.2.2.2.2.2.2.2.2.2.2.2.2.2.2.2.2.2.2.2.2.1 x2.2.2.2.2.2.2.2.2.2.2.2.2.2.2.2.2.2.2.2.2.2.1 x2.2.2.2.2.2.2.2.2.2.2.2.2.2.2.2.2.2.2.2.2.2.2.1 x2.2.2.2.2.2.2.2.2.2.2.2.2.2.2.2.2.2.2.2.2.2.2.2.1 x2.2.2.2.2.2.2.2.2.2.2.2.2.2.2.2.2.2.2.2.2.2.2.2.2.1 x2.2.2.2.2.2.2.2.2.2.2.2.2.2.2.2.2.2.2.2.2.2.2.2.2.2.1 x2.2.2.2.2.2.2.2.2.2.2.2.2.2.2.2.2.2.2.2.2.2.2.2.2.2.2.1 x2.2.2.2.2.2.2.2.2.2.2.2.2.2.2.2.2.2.2.2.2.2.2.2.2.2.2.2.1 x2.2.2.2.2.2.2.2.2.2.2.2.2.2.2.2.2.2.2.2.2.2.2.2.2.2.2.2.2.1 x2.2.2.2.2.2.2.2.2.2.2.2.2.2.2.2.2.2.2.2.2.2.2.2.2.2.2.2.2.2.1 x2.2.2.2.2.2.2.2.2.2.2.2.2.2.2.2.2.2.2.2.2.2.2.2.2.2.2.2.2.2.2.1 x2.2.2.2.2.2.2.2.2.2.2.2.2.2.2.2.2.2.2.2.2.2.2.2.2.2.2.2.2.2.2.2.1 x2.2.2.2.2.2.2.2.2.2.2.2.2.2.2.2.2.2.2.2.2.2.2.2.2.2.2.2.2.2.2.2.2.1 x2.2.2.2.2.2.2.2.2.2.2.2.2.2.2.2.2.2.2.2.2.2.2.2.2.2.2.2.2.2.2.2.2.2)) (As := [.int x4.2.2.2.2.1]) (rest := []) G koX7_137 (r_X4_digestBelow (o := (o + 22)) H_x6) (Nat.le_of_ble_eq_true rfl) 4 rfl rfl [22, 23, 24, 25, 26, 27, 28, 29, 30] [0, 1, 2, 3, 4, 5, 6, 7, 8, 9, 10, 11, 12, 13, 14, 15, 16, 17, 18, 19, 20, 21, 31, 32, 33, 34, 35, 36, 37, 38, 39, 40, 41, 42, 43] [0, 1, 2, 3, 4, 5, 6, 7, 8, 9, 10, 11, 12, 13, 14, 15, 16, 17, 18, 19, 20, 21, 35, 36, 37, 38, 39, 40, 41, 42, 43, 22, 23, 24, 25, 26, 27, 28, 29, 30, 31, 32, 33, 34] rfl rfl rfl rfl rfl rfl rfl rfl rfl (Nat.le_of_ble_eq_true rfl) ⟨Nat.zero_le _, Nat.zero_le _⟩ dX7_behind_114 rfl rfl ?_
            cases h
            exact w_iret G hQ rfl ⟨rfl, rfl⟩ dX7_behind_117
          replace h := (if_neg sdX7_behind_62_1).symm.trans h
          by_cases sdX7_behind_62_2 : l2 = (2 : Int32)
          · replace h := (if_pos sdX7_behind_62_2).symm.trans h
            refine w_tabIn (tgt := 118) G sdX7_behind_62_2 dX7_behind_62 (by decide) (by decide) rfl (by decide) ?_
            refine w_aload_n (pc2 := 119) G 1 rfl dX7_behind_118 rfl rfl ?_
            refine w_get (pc2 := 122) G foX7_55 0 rfl rfl dX7_behind_119 rfl ?_
            refine w_get (pc2 := 125) G foX7_130 22 rfl rfl dX7_behind_122 rfl ?_
            cases h
            exact w_iret G hQ rfl ⟨rfl, rfl⟩ dX7_behind_125
          replace h := (if_neg sdX7_behind_62_2).symm.trans h
          refine w_tabOut (tgt := 126) G dX7_behind_62 (by have e0 := ne_ti sdX7_behind_62_0; have e1 := ne_ti sdX7_behind_62_1; have e2 := ne_ti sdX7_behind_62_2; rw [show (0 : Int32).toInt = 0 from rfl] at e0; rw [show (1 : Int32).toInt = 1 from rfl] at e1; rw [show (2 : Int32).toInt = 2 from rfl] at e2; omega) (by decide) ?_
          refine w_aload_n (pc2 := 127) G 1 rfl dX7_behind_126 rfl rfl ?_
          refine w_get (pc2 := 130) G foX7_55 0 rfl rfl dX7_behind_127 rfl ?_
          refine w_aload_n (pc2 := 131) G 1 rfl dX7_behind_130 rfl rfl ?_
          refine w_get (pc2 := 134) G foX7_55 0 rfl rfl dX7_behind_131 rfl ?_
          refine w_get (pc2 := 137) G foX7_130 22 rfl rfl dX7_behind_134 rfl ?_
          obtain ⟨x7, H_x7, h⟩ := bs h
          refine w_cV1 (pc2 := 140) (ws2 := (wX7 E a o c_now_keys c_now_seed c_drawn_keys c_drawn_seed c_pad_signs c_pad_count c_sights_count c_sights_seeds c_img0_kept c_img0_world_keys c_img0_world_seed c_img0_sights_count c_img0_sights_seeds c_img1_kept c_img1_world_keys c_img1_world_seed c_img1_sights_count c_img1_sights_seeds x2.2.1 x2.2.2.1 x2.2.2.2.1 x2.2.2.2.2.1 x4.1 x4.2.1 x4.2.2.1 x4.2.2.2.1 x4.2.2.2.2.1 x4.2.2.2.2.2.1 x4.2.2.2.2.2.2.1 x4.2.2.2.2.2.2.2.1 x4.2.2.2.2.2.2.2.2.1 x4.2.2.2.2.2.2.2.2.2 x2.2.2.2.2.2.2.2.2.2.2.2.2.2.2.2.1 x2.2.2.2.2.2.2.2.2.2.2.2.2.2.2.2.2.1 x2.2.2.2.2.2.2.2.2.2.2.2.2.2.2.2.2.2.1 x2.2.2.2.2.2.2.2.2.2.2.2.2.2.2.2.2.2.2.1 x2.2.2.2.2.2.2.2.2.2.2.2.2.2.2.2.2.2.2.2.1 x2.2.2.2.2.2.2.2.2.2.2.2.2.2.2.2.2.2.2.2.2.1 x2.2.2.2.2.2.2.2.2.2.2.2.2.2.2.2.2.2.2.2.2.2.1 x2.2.2.2.2.2.2.2.2.2.2.2.2.2.2.2.2.2.2.2.2.2.2.1 x2.2.2.2.2.2.2.2.2.2.2.2.2.2.2.2.2.2.2.2.2.2.2.2.1 x2.2.2.2.2.2.2.2.2.2.2.2.2.2.2.2.2.2.2.2.2.2.2.2.2.1 x2.2.2.2.2.2.2.2.2.2.2.2.2.2.2.2.2.2.2.2.2.2.2.2.2.2.1 x2.2.2.2.2.2.2.2.2.2.2.2.2.2.2.2.2.2.2.2.2.2.2.2.2.2.2.1 x2.2.2.2.2.2.2.2.2.2.2.2.2.2.2.2.2.2.2.2.2.2.2.2.2.2.2.2.1 x2.2.2.2.2.2.2.2.2.2.2.2.2.2.2.2.2.2.2.2.2.2.2.2.2.2.2.2.2.1 x2.2.2.2.2.2.2.2.2.2.2.2.2.2.2.2.2.2.2.2.2.2.2.2.2.2.2.2.2.2.1 x2.2.2.2.2.2.2.2.2.2.2.2.2.2.2.2.2.2.2.2.2.2.2.2.2.2.2.2.2.2.2.1 x2.2.2.2.2.2.2.2.2.2.2.2.2.2.2.2.2.2.2.2.2.2.2.2.2.2.2.2.2.2.2.2.1 x2.2.2.2.2.2.2.2.2.2.2.2.2.2.2.2.2.2.2.2.2.2.2.2.2.2.2.2.2.2.2.2.2.1 x2.2.2.2.2.2.2.2.2.2.2.2.2.2.2.2.2.2.2.2.2.2.2.2.2.2.2.2.2.2.2.2.2.2)) (As := [.int x4.2.2.2.2.1]) (rest := []) G koX7_140 (r_X4_heightBelow (o := (o + 22)) H_x7) (Nat.le_of_ble_eq_true rfl) 4 rfl rfl [22, 23, 24, 25, 26, 27, 28, 29, 30] [0, 1, 2, 3, 4, 5, 6, 7, 8, 9, 10, 11, 12, 13, 14, 15, 16, 17, 18, 19, 20, 21, 31, 32, 33, 34, 35, 36, 37, 38, 39, 40, 41, 42, 43] [0, 1, 2, 3, 4, 5, 6, 7, 8, 9, 10, 11, 12, 13, 14, 15, 16, 17, 18, 19, 20, 21, 35, 36, 37, 38, 39, 40, 41, 42, 43, 22, 23, 24, 25, 26, 27, 28, 29, 30, 31, 32, 33, 34] rfl rfl rfl rfl rfl rfl rfl rfl rfl (Nat.le_of_ble_eq_true rfl) ⟨Nat.zero_le _, Nat.zero_le _⟩ dX7_behind_137 rfl rfl ?_
          cases h
          exact w_iret G hQ rfl ⟨rfl, rfl⟩ dX7_behind_140
        · replace h := (if_neg cc).symm.trans h
          refine w_iload_n (pc2 := 31) G 0 rfl dX7_behind_30 rfl rfl ?_
          cases h
          exact w_iret G hQ rfl ⟨rfl, rfl⟩ dX7_behind_31
      · replace h := (if_neg cc).symm.trans h
        refine w_bipush (pc2 := 20) G dX7_behind_18 k_bipush_m2 rfl ?_
        cases h
        exact w_iret G hQ rfl ⟨rfl, rfl⟩ dX7_behind_20
  · replace h := (if_pos cc).symm.trans h
    refine w_iconst (pc2 := 8) G dX7_behind_7 k_iconst_m1 rfl ?_
    cases h
    exact w_iret G hQ rfl ⟨rfl, rfl⟩ dX7_behind_8

set_option maxHeartbeats 4000000 in
set_option maxRecDepth 100000 in
theorem r_X7_alike {l : Launch} {E : EV} {a : Nat → Nat} {o : Nat} {c_now_keys : Nat → Int64} {c_now_seed : Int32} {c_drawn_keys : Nat → Int64} {c_drawn_seed : Int32} {c_pad_signs : Nat → Int32} {c_pad_count c_sights_count : Int32} {c_sights_seeds : Nat → Int64} {c_img0_kept : Int32} {c_img0_world_keys : Nat → Int64} {c_img0_world_seed c_img0_sights_count : Int32} {c_img0_sights_seeds : Nat → Int64} {c_img1_kept : Int32} {c_img1_world_keys : Nat → Int64} {c_img1_world_seed c_img1_sights_count : Int32} {c_img1_sights_seeds : Nat → Int64} {c_trial_act_kind c_trial_act_set c_trial_act_key c_trial_act_other : Int32} {c_trial_tb_left c_trial_tb_right c_trial_tb_parent : Nat → Int32} {c_trial_tb_span : Nat → Int64} {c_trial_tb_root : Int32} {c_trial_tb_digest c_trial_tb_height c_trial_tb_priority : Nat → Int32} {c_trial_tb_pricedBy : Int32} {c_trial_tb_open c_trial_ta_left c_trial_ta_right c_trial_ta_parent : Nat → Int32} {c_trial_ta_span : Nat → Int64} {c_trial_ta_root : Int32} {c_trial_ta_digest c_trial_ta_height c_trial_ta_priority : Nat → Int32} {c_trial_ta_pricedBy : Int32} {c_trial_ta_open : Nat → Int32} {c_trial_after_keys : Nat → Int64} {c_trial_after_seed : Int32} {c_trial_before_keys : Nat → Int64} {c_trial_before_seed c_trial_acts c_trial_whyNot c_trial_work c_trial_alikeAct c_trial_alikePair : Int32} {l1 : Int32} {R : Int32 × Int32 × Int32 × Int32 × Int32 × (Nat → Int32) × (Nat → Int32) × (Nat → Int32) × (Nat → Int64) × Int32 × (Nat → Int32) × (Nat → Int32) × (Nat → Int32) × Int32 × (Nat → Int32) × (Nat → Int32) × (Nat → Int32) × (Nat → Int32) × (Nat → Int64) × Int32 × (Nat → Int32) × (Nat → Int32) × (Nat → Int32) × Int32 × (Nat → Int32) × (Nat → Int64) × Int32 × (Nat → Int64) × Int32 × Int32 × Int32 × Int32 × Int32 × Int32} (h : f_X7_alike c_now_keys c_now_seed c_pad_signs c_pad_count c_trial_act_kind c_trial_act_set c_trial_act_key c_trial_act_other c_trial_tb_left c_trial_tb_right c_trial_tb_parent c_trial_tb_span c_trial_tb_root c_trial_tb_digest c_trial_tb_height c_trial_tb_priority c_trial_tb_pricedBy c_trial_tb_open c_trial_ta_left c_trial_ta_right c_trial_ta_parent c_trial_ta_span c_trial_ta_root c_trial_ta_digest c_trial_ta_height c_trial_ta_priority c_trial_ta_pricedBy c_trial_ta_open c_trial_after_keys c_trial_after_seed c_trial_before_keys c_trial_before_seed c_trial_acts c_trial_whyNot c_trial_work c_trial_alikeAct c_trial_alikePair l1 = some R) : Ret1 l E yX7_alike cX7_alike 3 (some .int) 6 (wX7 E a o c_now_keys c_now_seed c_drawn_keys c_drawn_seed c_pad_signs c_pad_count c_sights_count c_sights_seeds c_img0_kept c_img0_world_keys c_img0_world_seed c_img0_sights_count c_img0_sights_seeds c_img1_kept c_img1_world_keys c_img1_world_seed c_img1_sights_count c_img1_sights_seeds c_trial_act_kind c_trial_act_set c_trial_act_key c_trial_act_other c_trial_tb_left c_trial_tb_right c_trial_tb_parent c_trial_tb_span c_trial_tb_root c_trial_tb_digest c_trial_tb_height c_trial_tb_priority c_trial_tb_pricedBy c_trial_tb_open c_trial_ta_left c_trial_ta_right c_trial_ta_parent c_trial_ta_span c_trial_ta_root c_trial_ta_digest c_trial_ta_height c_trial_ta_priority c_trial_ta_pricedBy c_trial_ta_open c_trial_after_keys c_trial_after_seed c_trial_before_keys c_trial_before_seed c_trial_acts c_trial_whyNot c_trial_work c_trial_alikeAct c_trial_alikePair) [.ref (a o), .int l1] (some (.int R.1)) (wX7 E a o c_now_keys c_now_seed c_drawn_keys c_drawn_seed c_pad_signs c_pad_count c_sights_count c_sights_seeds c_img0_kept c_img0_world_keys c_img0_world_seed c_img0_sights_count c_img0_sights_seeds c_img1_kept c_img1_world_keys c_img1_world_seed c_img1_sights_count c_img1_sights_seeds R.2.1 R.2.2.1 R.2.2.2.1 R.2.2.2.2.1 R.2.2.2.2.2.1 R.2.2.2.2.2.2.1 R.2.2.2.2.2.2.2.1 R.2.2.2.2.2.2.2.2.1 R.2.2.2.2.2.2.2.2.2.1 R.2.2.2.2.2.2.2.2.2.2.1 R.2.2.2.2.2.2.2.2.2.2.2.1 R.2.2.2.2.2.2.2.2.2.2.2.2.1 R.2.2.2.2.2.2.2.2.2.2.2.2.2.1 R.2.2.2.2.2.2.2.2.2.2.2.2.2.2.1 R.2.2.2.2.2.2.2.2.2.2.2.2.2.2.2.1 R.2.2.2.2.2.2.2.2.2.2.2.2.2.2.2.2.1 R.2.2.2.2.2.2.2.2.2.2.2.2.2.2.2.2.2.1 R.2.2.2.2.2.2.2.2.2.2.2.2.2.2.2.2.2.2.1 R.2.2.2.2.2.2.2.2.2.2.2.2.2.2.2.2.2.2.2.1 R.2.2.2.2.2.2.2.2.2.2.2.2.2.2.2.2.2.2.2.2.1 R.2.2.2.2.2.2.2.2.2.2.2.2.2.2.2.2.2.2.2.2.2.1 R.2.2.2.2.2.2.2.2.2.2.2.2.2.2.2.2.2.2.2.2.2.2.1 R.2.2.2.2.2.2.2.2.2.2.2.2.2.2.2.2.2.2.2.2.2.2.2.1 R.2.2.2.2.2.2.2.2.2.2.2.2.2.2.2.2.2.2.2.2.2.2.2.2.1 R.2.2.2.2.2.2.2.2.2.2.2.2.2.2.2.2.2.2.2.2.2.2.2.2.2.1 R.2.2.2.2.2.2.2.2.2.2.2.2.2.2.2.2.2.2.2.2.2.2.2.2.2.2.1 R.2.2.2.2.2.2.2.2.2.2.2.2.2.2.2.2.2.2.2.2.2.2.2.2.2.2.2.1 R.2.2.2.2.2.2.2.2.2.2.2.2.2.2.2.2.2.2.2.2.2.2.2.2.2.2.2.2.1 R.2.2.2.2.2.2.2.2.2.2.2.2.2.2.2.2.2.2.2.2.2.2.2.2.2.2.2.2.2.1 R.2.2.2.2.2.2.2.2.2.2.2.2.2.2.2.2.2.2.2.2.2.2.2.2.2.2.2.2.2.2.1 R.2.2.2.2.2.2.2.2.2.2.2.2.2.2.2.2.2.2.2.2.2.2.2.2.2.2.2.2.2.2.2.1 R.2.2.2.2.2.2.2.2.2.2.2.2.2.2.2.2.2.2.2.2.2.2.2.2.2.2.2.2.2.2.2.2.1 R.2.2.2.2.2.2.2.2.2.2.2.2.2.2.2.2.2.2.2.2.2.2.2.2.2.2.2.2.2.2.2.2.2) := by
  refine Ret.intro (lv := [(0, .ref (a o)), (1, .int l1)]) (by decide) (Nat.le_of_ble_eq_true rfl) rfl ?_
  intro g hgl G hQ
  subst hgl
  rw [f_X7_alike] at h
  refine w_iload_n (pc2 := 1) G 1 rfl dX7_alike_0 rfl rfl ?_
  refine w_if_lt (tgt := 9) (pc2 := 4) G dX7_alike_1 (by decide) rfl (fun cc => ?_) (fun cc => ?_)
  · replace h := (if_pos cc).symm.trans h
    refine w_bipush (pc2 := 11) G dX7_alike_9 k_bipush_m2 rfl ?_
    cases h
    exact w_iret G hQ rfl ⟨rfl, rfl⟩ dX7_alike_11
  · replace h := (if_neg cc).symm.trans h
    refine w_iload_n (pc2 := 5) G 1 rfl dX7_alike_4 rfl rfl ?_
    refine w_iconst (pc2 := 6) G dX7_alike_5 k_iconst_2 rfl ?_
    refine w_icmp_le (tgt := 12) (pc2 := 9) G dX7_alike_6 (by decide) rfl (fun cc => ?_) (fun cc => ?_)
    · replace h := (if_pos cc).symm.trans h
      refine w_aload_n (pc2 := 13) G 0 rfl dX7_alike_12 rfl rfl ?_
      obtain ⟨x1, H_x1, h⟩ := bs h
      refine w_cV0 (pc2 := 16) (ws2 := (wX7 E a o c_now_keys c_now_seed c_drawn_keys c_drawn_seed c_pad_signs c_pad_count c_sights_count c_sights_seeds c_img0_kept c_img0_world_keys c_img0_world_seed c_img0_sights_count c_img0_sights_seeds c_img1_kept c_img1_world_keys c_img1_world_seed c_img1_sights_count c_img1_sights_seeds x1.2.1 x1.2.2.1 x1.2.2.2.1 x1.2.2.2.2.1 x1.2.2.2.2.2.1 x1.2.2.2.2.2.2.1 x1.2.2.2.2.2.2.2.1 x1.2.2.2.2.2.2.2.2.1 x1.2.2.2.2.2.2.2.2.2.1 x1.2.2.2.2.2.2.2.2.2.2.1 x1.2.2.2.2.2.2.2.2.2.2.2.1 x1.2.2.2.2.2.2.2.2.2.2.2.2.1 x1.2.2.2.2.2.2.2.2.2.2.2.2.2.1 x1.2.2.2.2.2.2.2.2.2.2.2.2.2.2.1 x1.2.2.2.2.2.2.2.2.2.2.2.2.2.2.2.1 x1.2.2.2.2.2.2.2.2.2.2.2.2.2.2.2.2.1 x1.2.2.2.2.2.2.2.2.2.2.2.2.2.2.2.2.2.1 x1.2.2.2.2.2.2.2.2.2.2.2.2.2.2.2.2.2.2.1 x1.2.2.2.2.2.2.2.2.2.2.2.2.2.2.2.2.2.2.2.1 x1.2.2.2.2.2.2.2.2.2.2.2.2.2.2.2.2.2.2.2.2.1 x1.2.2.2.2.2.2.2.2.2.2.2.2.2.2.2.2.2.2.2.2.2.1 x1.2.2.2.2.2.2.2.2.2.2.2.2.2.2.2.2.2.2.2.2.2.2.1 x1.2.2.2.2.2.2.2.2.2.2.2.2.2.2.2.2.2.2.2.2.2.2.2.1 x1.2.2.2.2.2.2.2.2.2.2.2.2.2.2.2.2.2.2.2.2.2.2.2.2.1 x1.2.2.2.2.2.2.2.2.2.2.2.2.2.2.2.2.2.2.2.2.2.2.2.2.2.1 x1.2.2.2.2.2.2.2.2.2.2.2.2.2.2.2.2.2.2.2.2.2.2.2.2.2.2.1 x1.2.2.2.2.2.2.2.2.2.2.2.2.2.2.2.2.2.2.2.2.2.2.2.2.2.2.2.1 x1.2.2.2.2.2.2.2.2.2.2.2.2.2.2.2.2.2.2.2.2.2.2.2.2.2.2.2.2.1 x1.2.2.2.2.2.2.2.2.2.2.2.2.2.2.2.2.2.2.2.2.2.2.2.2.2.2.2.2.2.1 x1.2.2.2.2.2.2.2.2.2.2.2.2.2.2.2.2.2.2.2.2.2.2.2.2.2.2.2.2.2.2.1 x1.2.2.2.2.2.2.2.2.2.2.2.2.2.2.2.2.2.2.2.2.2.2.2.2.2.2.2.2.2.2.2.1 x1.2.2.2.2.2.2.2.2.2.2.2.2.2.2.2.2.2.2.2.2.2.2.2.2.2.2.2.2.2.2.2.2.1 x1.2.2.2.2.2.2.2.2.2.2.2.2.2.2.2.2.2.2.2.2.2.2.2.2.2.2.2.2.2.2.2.2.2)) (As := []) (rest := []) G koX7_109 (r_X7_tryActs H_x1) (Nat.le_of_ble_eq_true rfl) 7 rfl rfl rfl rfl (Nat.le_of_ble_eq_true rfl) ⟨Nat.zero_le _, Nat.zero_le _⟩ dX7_alike_13 rfl rfl ?_
      refine w_istore_n (pc2 := 17) (lv2 := [(2, .int x1.1), (0, .ref (a o)), (1, .int l1)]) G dX7_alike_16 rfl (Nat.le_of_ble_eq_true rfl) rfl rfl ?_
      refine w_iload_n (pc2 := 18) G 0 rfl dX7_alike_17 rfl rfl ?_
      refine w_if_eq (tgt := 23) (pc2 := 21) G dX7_alike_18 (by decide) rfl (fun cc => ?_) (fun cc => ?_)
      · replace h := (if_pos cc).symm.trans h
        refine w_iload_n (pc2 := 24) G 2 rfl dX7_alike_23 rfl rfl ?_
        by_cases sdX7_alike_24_0 : l1 = (0 : Int32)
        · replace h := (if_pos sdX7_alike_24_0).symm.trans h
          refine w_look (tgt := 52) G dX7_alike_24 (by decide) (by rw [sdX7_alike_24_0] <;> rfl) (by decide) ?_
          refine w_aload_n (pc2 := 53) G 1 rfl dX7_alike_52 rfl rfl ?_
          refine w_get (pc2 := 56) G foX7_42 0 rfl rfl dX7_alike_53 rfl ?_
          refine w_get (pc2 := 59) G foX7_143 20 rfl rfl dX7_alike_56 rfl ?_
          cases h
          exact w_iret G hQ rfl ⟨rfl, rfl⟩ dX7_alike_59
        replace h := (if_neg sdX7_alike_24_0).symm.trans h
        by_cases sdX7_alike_24_1 : l1 = (1 : Int32)
        · replace h := (if_pos sdX7_alike_24_1).symm.trans h
          refine w_look (tgt := 60) G dX7_alike_24 (by decide) (by rw [sdX7_alike_24_1] <;> rfl) (by decide) ?_
          refine w_aload_n (pc2 := 61) G 1 rfl dX7_alike_60 rfl rfl ?_
          refine w_get (pc2 := 64) G foX7_42 0 rfl rfl dX7_alike_61 rfl ?_
          refine w_get (pc2 := 67) G foX7_146 20 rfl rfl dX7_alike_64 rfl ?_
          cases h
          exact w_iret G hQ rfl ⟨rfl, rfl⟩ dX7_alike_67
        replace h := (if_neg sdX7_alike_24_1).symm.trans h
        refine w_look (tgt := 68) G dX7_alike_24 (by decide) (look_out (by have e0 := ne_ti sdX7_alike_24_0; have e1 := ne_ti sdX7_alike_24_1; simp only [List.all_cons, List.all_nil, Bool.and_true, Bool.and_eq_true, decide_eq_true_eq]; exact ⟨e0, e1⟩)) (by decide) ?_
        refine w_aload_n (pc2 := 69) G 1 rfl dX7_alike_68 rfl rfl ?_
        refine w_get (pc2 := 72) G foX7_42 0 rfl rfl dX7_alike_69 rfl ?_
        refine w_get (pc2 := 75) G foX7_121 20 rfl rfl dX7_alike_72 rfl ?_
        refine w_get (pc2 := 78) G foX7_69 40 rfl rfl dX7_alike_75 rfl ?_
        cases h
        exact w_iret G hQ rfl ⟨rfl, rfl⟩ dX7_alike_78
      · replace h := (if_neg cc).symm.trans h
        refine w_iload_n (pc2 := 22) G 0 rfl dX7_alike_21 rfl rfl ?_
        cases h
        exact w_iret G hQ rfl ⟨rfl, rfl⟩ dX7_alike_22
    · replace h := (if_neg cc).symm.trans h
      refine w_bipush (pc2 := 11) G dX7_alike_9 k_bipush_m2 rfl ?_
      cases h
      exact w_iret G hQ rfl ⟨rfl, rfl⟩ dX7_alike_11

set_option maxHeartbeats 4000000 in
set_option maxRecDepth 100000 in
theorem r_X7_done {l : Launch} {E : EV} {a : Nat → Nat} {o : Nat} {c_now_keys : Nat → Int64} {c_now_seed : Int32} {c_drawn_keys : Nat → Int64} {c_drawn_seed : Int32} {c_pad_signs : Nat → Int32} {c_pad_count c_sights_count : Int32} {c_sights_seeds : Nat → Int64} {c_img0_kept : Int32} {c_img0_world_keys : Nat → Int64} {c_img0_world_seed c_img0_sights_count : Int32} {c_img0_sights_seeds : Nat → Int64} {c_img1_kept : Int32} {c_img1_world_keys : Nat → Int64} {c_img1_world_seed c_img1_sights_count : Int32} {c_img1_sights_seeds : Nat → Int64} {c_trial_act_kind c_trial_act_set c_trial_act_key c_trial_act_other : Int32} {c_trial_tb_left c_trial_tb_right c_trial_tb_parent : Nat → Int32} {c_trial_tb_span : Nat → Int64} {c_trial_tb_root : Int32} {c_trial_tb_digest c_trial_tb_height c_trial_tb_priority : Nat → Int32} {c_trial_tb_pricedBy : Int32} {c_trial_tb_open c_trial_ta_left c_trial_ta_right c_trial_ta_parent : Nat → Int32} {c_trial_ta_span : Nat → Int64} {c_trial_ta_root : Int32} {c_trial_ta_digest c_trial_ta_height c_trial_ta_priority : Nat → Int32} {c_trial_ta_pricedBy : Int32} {c_trial_ta_open : Nat → Int32} {c_trial_after_keys : Nat → Int64} {c_trial_after_seed : Int32} {c_trial_before_keys : Nat → Int64} {c_trial_before_seed c_trial_acts c_trial_whyNot c_trial_work c_trial_alikeAct c_trial_alikePair : Int32}  {R : Int32 × (Nat → Int64) × Int32 × Int32 × Int32 × Int32 × Int32 × Int32 × (Nat → Int32) × (Nat → Int32) × (Nat → Int32) × (Nat → Int64) × Int32 × (Nat → Int32) × (Nat → Int32) × (Nat → Int32) × Int32 × (Nat → Int32) × (Nat → Int32) × (Nat → Int32) × (Nat → Int32) × (Nat → Int64) × Int32 × (Nat → Int32) × (Nat → Int32) × (Nat → Int32) × Int32 × (Nat → Int32) × (Nat → Int64) × Int32 × (Nat → Int64) × Int32 × Int32 × Int32 × Int32 × Int32 × Int32} (h : f_X7_done c_now_keys c_now_seed c_pad_signs c_pad_count c_trial_act_kind c_trial_act_set c_trial_act_key c_trial_act_other c_trial_tb_left c_trial_tb_right c_trial_tb_parent c_trial_tb_span c_trial_tb_root c_trial_tb_digest c_trial_tb_height c_trial_tb_priority c_trial_tb_pricedBy c_trial_tb_open c_trial_ta_left c_trial_ta_right c_trial_ta_parent c_trial_ta_span c_trial_ta_root c_trial_ta_digest c_trial_ta_height c_trial_ta_priority c_trial_ta_pricedBy c_trial_ta_open c_trial_after_keys c_trial_after_seed c_trial_before_keys c_trial_before_seed c_trial_acts c_trial_whyNot c_trial_work c_trial_alikeAct c_trial_alikePair = some R) : Ret1 l E yX7_done cX7_done 2 (some .int) 6 (wX7 E a o c_now_keys c_now_seed c_drawn_keys c_drawn_seed c_pad_signs c_pad_count c_sights_count c_sights_seeds c_img0_kept c_img0_world_keys c_img0_world_seed c_img0_sights_count c_img0_sights_seeds c_img1_kept c_img1_world_keys c_img1_world_seed c_img1_sights_count c_img1_sights_seeds c_trial_act_kind c_trial_act_set c_trial_act_key c_trial_act_other c_trial_tb_left c_trial_tb_right c_trial_tb_parent c_trial_tb_span c_trial_tb_root c_trial_tb_digest c_trial_tb_height c_trial_tb_priority c_trial_tb_pricedBy c_trial_tb_open c_trial_ta_left c_trial_ta_right c_trial_ta_parent c_trial_ta_span c_trial_ta_root c_trial_ta_digest c_trial_ta_height c_trial_ta_priority c_trial_ta_pricedBy c_trial_ta_open c_trial_after_keys c_trial_after_seed c_trial_before_keys c_trial_before_seed c_trial_acts c_trial_whyNot c_trial_work c_trial_alikeAct c_trial_alikePair) [.ref (a o)] (some (.int R.1)) (wX7 E a o R.2.1 R.2.2.1 c_drawn_keys c_drawn_seed c_pad_signs R.2.2.2.1 c_sights_count c_sights_seeds c_img0_kept c_img0_world_keys c_img0_world_seed c_img0_sights_count c_img0_sights_seeds c_img1_kept c_img1_world_keys c_img1_world_seed c_img1_sights_count c_img1_sights_seeds R.2.2.2.2.1 R.2.2.2.2.2.1 R.2.2.2.2.2.2.1 R.2.2.2.2.2.2.2.1 R.2.2.2.2.2.2.2.2.1 R.2.2.2.2.2.2.2.2.2.1 R.2.2.2.2.2.2.2.2.2.2.1 R.2.2.2.2.2.2.2.2.2.2.2.1 R.2.2.2.2.2.2.2.2.2.2.2.2.1 R.2.2.2.2.2.2.2.2.2.2.2.2.2.1 R.2.2.2.2.2.2.2.2.2.2.2.2.2.2.1 R.2.2.2.2.2.2.2.2.2.2.2.2.2.2.2.1 R.2.2.2.2.2.2.2.2.2.2.2.2.2.2.2.2.1 R.2.2.2.2.2.2.2.2.2.2.2.2.2.2.2.2.2.1 R.2.2.2.2.2.2.2.2.2.2.2.2.2.2.2.2.2.2.1 R.2.2.2.2.2.2.2.2.2.2.2.2.2.2.2.2.2.2.2.1 R.2.2.2.2.2.2.2.2.2.2.2.2.2.2.2.2.2.2.2.2.1 R.2.2.2.2.2.2.2.2.2.2.2.2.2.2.2.2.2.2.2.2.2.1 R.2.2.2.2.2.2.2.2.2.2.2.2.2.2.2.2.2.2.2.2.2.2.1 R.2.2.2.2.2.2.2.2.2.2.2.2.2.2.2.2.2.2.2.2.2.2.2.1 R.2.2.2.2.2.2.2.2.2.2.2.2.2.2.2.2.2.2.2.2.2.2.2.2.1 R.2.2.2.2.2.2.2.2.2.2.2.2.2.2.2.2.2.2.2.2.2.2.2.2.2.1 R.2.2.2.2.2.2.2.2.2.2.2.2.2.2.2.2.2.2.2.2.2.2.2.2.2.2.1 R.2.2.2.2.2.2.2.2.2.2.2.2.2.2.2.2.2.2.2.2.2.2.2.2.2.2.2.1 R.2.2.2.2.2.2.2.2.2.2.2.2.2.2.2.2.2.2.2.2.2.2.2.2.2.2.2.2.1 R.2.2.2.2.2.2.2.2.2.2.2.2.2.2.2.2.2.2.2.2.2.2.2.2.2.2.2.2.2.1 R.2.2.2.2.2.2.2.2.2.2.2.2.2.2.2.2.2.2.2.2.2.2.2.2.2.2.2.2.2.2.1 R.2.2.2.2.2.2.2.2.2.2.2.2.2.2.2.2.2.2.2.2.2.2.2.2.2.2.2.2.2.2.2.1 R.2.2.2.2.2.2.2.2.2.2.2.2.2.2.2.2.2.2.2.2.2.2.2.2.2.2.2.2.2.2.2.2.1 R.2.2.2.2.2.2.2.2.2.2.2.2.2.2.2.2.2.2.2.2.2.2.2.2.2.2.2.2.2.2.2.2.2.1 R.2.2.2.2.2.2.2.2.2.2.2.2.2.2.2.2.2.2.2.2.2.2.2.2.2.2.2.2.2.2.2.2.2.2.1 R.2.2.2.2.2.2.2.2.2.2.2.2.2.2.2.2.2.2.2.2.2.2.2.2.2.2.2.2.2.2.2.2.2.2.2.1 R.2.2.2.2.2.2.2.2.2.2.2.2.2.2.2.2.2.2.2.2.2.2.2.2.2.2.2.2.2.2.2.2.2.2.2.2) := by
  refine Ret.intro (lv := [(0, .ref (a o))]) (by decide) (Nat.le_of_ble_eq_true rfl) rfl ?_
  intro g hgl G hQ
  subst hgl
  rw [f_X7_done] at h
  refine w_aload_n (pc2 := 1) G 0 rfl dX7_done_0 rfl rfl ?_
  obtain ⟨x1, H_x1, h⟩ := bs h
  refine w_cV0 (pc2 := 4) (ws2 := (wX7 E a o c_now_keys c_now_seed c_drawn_keys c_drawn_seed c_pad_signs c_pad_count c_sights_count c_sights_seeds c_img0_kept c_img0_world_keys c_img0_world_seed c_img0_sights_count c_img0_sights_seeds c_img1_kept c_img1_world_keys c_img1_world_seed c_img1_sights_count c_img1_sights_seeds x1.2.1 x1.2.2.1 x1.2.2.2.1 x1.2.2.2.2.1 x1.2.2.2.2.2.1 x1.2.2.2.2.2.2.1 x1.2.2.2.2.2.2.2.1 x1.2.2.2.2.2.2.2.2.1 x1.2.2.2.2.2.2.2.2.2.1 x1.2.2.2.2.2.2.2.2.2.2.1 x1.2.2.2.2.2.2.2.2.2.2.2.1 x1.2.2.2.2.2.2.2.2.2.2.2.2.1 x1.2.2.2.2.2.2.2.2.2.2.2.2.2.1 x1.2.2.2.2.2.2.2.2.2.2.2.2.2.2.1 x1.2.2.2.2.2.2.2.2.2.2.2.2.2.2.2.1 x1.2.2.2.2.2.2.2.2.2.2.2.2.2.2.2.2.1 x1.2.2.2.2.2.2.2.2.2.2.2.2.2.2.2.2.2.1 x1.2.2.2.2.2.2.2.2.2.2.2.2.2.2.2.2.2.2.1 x1.2.2.2.2.2.2.2.2.2.2.2.2.2.2.2.2.2.2.2.1 x1.2.2.2.2.2.2.2.2.2.2.2.2.2.2.2.2.2.2.2.2.1 x1.2.2.2.2.2.2.2.2.2.2.2.2.2.2.2.2.2.2.2.2.2.1 x1.2.2.2.2.2.2.2.2.2.2.2.2.2.2.2.2.2.2.2.2.2.2.1 x1.2.2.2.2.2.2.2.2.2.2.2.2.2.2.2.2.2.2.2.2.2.2.2.1 x1.2.2.2.2.2.2.2.2.2.2.2.2.2.2.2.2.2.2.2.2.2.2.2.2.1 x1.2.2.2.2.2.2.2.2.2.2.2.2.2.2.2.2.2.2.2.2.2.2.2.2.2.1 x1.2.2.2.2.2.2.2.2.2.2.2.2.2.2.2.2.2.2.2.2.2.2.2.2.2.2.1 x1.2.2.2.2.2.2.2.2.2.2.2.2.2.2.2.2.2.2.2.2.2.2.2.2.2.2.2.1 x1.2.2.2.2.2.2.2.2.2.2.2.2.2.2.2.2.2.2.2.2.2.2.2.2.2.2.2.2.1 x1.2.2.2.2.2.2.2.2.2.2.2.2.2.2.2.2.2.2.2.2.2.2.2.2.2.2.2.2.2.1 x1.2.2.2.2.2.2.2.2.2.2.2.2.2.2.2.2.2.2.2.2.2.2.2.2.2.2.2.2.2.2.1 x1.2.2.2.2.2.2.2.2.2.2.2.2.2.2.2.2.2.2.2.2.2.2.2.2.2.2.2.2.2.2.2.1 x1.2.2.2.2.2.2.2.2.2.2.2.2.2.2.2.2.2.2.2.2.2.2.2.2.2.2.2.2.2.2.2.2.1 x1.2.2.2.2.2.2.2.2.2.2.2.2.2.2.2.2.2.2.2.2.2.2.2.2.2.2.2.2.2.2.2.2.2)) (As := []) (rest := []) G koX7_109 (r_X7_tryActs H_x1) (Nat.le_of_ble_eq_true rfl) 7 rfl rfl rfl rfl (Nat.le_of_ble_eq_true rfl) ⟨Nat.zero_le _, Nat.zero_le _⟩ dX7_done_1 rfl rfl ?_
  refine w_istore_n (pc2 := 5) (lv2 := [(1, .int x1.1), (0, .ref (a o))]) G dX7_done_4 rfl (Nat.le_of_ble_eq_true rfl) rfl rfl ?_
  refine w_iload_n (pc2 := 6) G 0 rfl dX7_done_5 rfl rfl ?_
  refine w_if_eq (tgt := 11) (pc2 := 9) G dX7_done_6 (by decide) rfl (fun cc => ?_) (fun cc => ?_)
  · replace h := (if_pos cc).symm.trans h
    refine w_aload_n (pc2 := 12) G 1 rfl dX7_done_11 rfl rfl ?_
    refine w_get (pc2 := 15) G foX7_10 0 rfl rfl dX7_done_12 rfl ?_
    refine w_aload_n (pc2 := 16) G 1 rfl dX7_done_15 rfl rfl ?_
    refine w_get (pc2 := 19) G foX7_42 0 rfl rfl dX7_done_16 rfl ?_
    refine w_get (pc2 := 22) G foX7_121 20 rfl rfl dX7_done_19 rfl ?_
    obtain ⟨x2, H_x2, h⟩ := bs h
    refine w_cV1 (pc2 := 25) (ws2 := (wX7 E a o x2.1 x2.2 c_drawn_keys c_drawn_seed c_pad_signs c_pad_count c_sights_count c_sights_seeds c_img0_kept c_img0_world_keys c_img0_world_seed c_img0_sights_count c_img0_sights_seeds c_img1_kept c_img1_world_keys c_img1_world_seed c_img1_sights_count c_img1_sights_seeds x1.2.1 x1.2.2.1 x1.2.2.2.1 x1.2.2.2.2.1 x1.2.2.2.2.2.1 x1.2.2.2.2.2.2.1 x1.2.2.2.2.2.2.2.1 x1.2.2.2.2.2.2.2.2.1 x1.2.2.2.2.2.2.2.2.2.1 x1.2.2.2.2.2.2.2.2.2.2.1 x1.2.2.2.2.2.2.2.2.2.2.2.1 x1.2.2.2.2.2.2.2.2.2.2.2.2.1 x1.2.2.2.2.2.2.2.2.2.2.2.2.2.1 x1.2.2.2.2.2.2.2.2.2.2.2.2.2.2.1 x1.2.2.2.2.2.2.2.2.2.2.2.2.2.2.2.1 x1.2.2.2.2.2.2.2.2.2.2.2.2.2.2.2.2.1 x1.2.2.2.2.2.2.2.2.2.2.2.2.2.2.2.2.2.1 x1.2.2.2.2.2.2.2.2.2.2.2.2.2.2.2.2.2.2.1 x1.2.2.2.2.2.2.2.2.2.2.2.2.2.2.2.2.2.2.2.1 x1.2.2.2.2.2.2.2.2.2.2.2.2.2.2.2.2.2.2.2.2.1 x1.2.2.2.2.2.2.2.2.2.2.2.2.2.2.2.2.2.2.2.2.2.1 x1.2.2.2.2.2.2.2.2.2.2.2.2.2.2.2.2.2.2.2.2.2.2.1 x1.2.2.2.2.2.2.2.2.2.2.2.2.2.2.2.2.2.2.2.2.2.2.2.1 x1.2.2.2.2.2.2.2.2.2.2.2.2.2.2.2.2.2.2.2.2.2.2.2.2.1 x1.2.2.2.2.2.2.2.2.2.2.2.2.2.2.2.2.2.2.2.2.2.2.2.2.2.1 x1.2.2.2.2.2.2.2.2.2.2.2.2.2.2.2.2.2.2.2.2.2.2.2.2.2.2.1 x1.2.2.2.2.2.2.2.2.2.2.2.2.2.2.2.2.2.2.2.2.2.2.2.2.2.2.2.1 x1.2.2.2.2.2.2.2.2.2.2.2.2.2.2.2.2.2.2.2.2.2.2.2.2.2.2.2.2.1 x1.2.2.2.2.2.2.2.2.2.2.2.2.2.2.2.2.2.2.2.2.2.2.2.2.2.2.2.2.2.1 x1.2.2.2.2.2.2.2.2.2.2.2.2.2.2.2.2.2.2.2.2.2.2.2.2.2.2.2.2.2.2.1 x1.2.2.2.2.2.2.2.2.2.2.2.2.2.2.2.2.2.2.2.2.2.2.2.2.2.2.2.2.2.2.2.1 x1.2.2.2.2.2.2.2.2.2.2.2.2.2.2.2.2.2.2.2.2.2.2.2.2.2.2.2.2.2.2.2.2.1 x1.2.2.2.2.2.2.2.2.2.2.2.2.2.2.2.2.2.2.2.2.2.2.2.2.2.2.2.2.2.2.2.2.2)) (As := [.ref (a (o + 40))]) (rest := []) G koX7_149 (r_X6_copy (o := (o + 1)) (o1 := (o + 40)) H_x2) (Nat.le_of_ble_eq_true rfl) 6 rfl rfl [1, 2, 40, 41] [0, 3, 4, 5, 6, 7, 8, 9, 10, 11, 12, 13, 14, 15, 16, 17, 18, 19, 20, 21, 22, 23, 24, 25, 26, 27, 28, 29, 30, 31, 32, 33, 34, 35, 36, 37, 38, 39, 42, 43] [0, 40, 41, 1, 2, 3, 4, 5, 6, 7, 8, 9, 10, 11, 12, 13, 14, 15, 16, 17, 18, 19, 20, 21, 22, 23, 24, 25, 26, 27, 28, 29, 30, 31, 32, 33, 34, 35, 36, 37, 42, 43, 38, 39] rfl rfl rfl rfl rfl rfl rfl rfl rfl (Nat.le_of_ble_eq_true rfl) ⟨Nat.zero_le _, Nat.zero_le _⟩ dX7_done_22 rfl rfl ?_
    refine w_aload_n (pc2 := 26) G 1 rfl dX7_done_25 rfl rfl ?_
    refine w_get (pc2 := 29) G foX7_22 0 rfl rfl dX7_done_26 rfl ?_
    obtain ⟨x3, H_x3, h⟩ := bs h
    refine w_cV1 (pc2 := 32) (ws2 := (wX7 E a o x2.1 x2.2 c_drawn_keys c_drawn_seed c_pad_signs x3 c_sights_count c_sights_seeds c_img0_kept c_img0_world_keys c_img0_world_seed c_img0_sights_count c_img0_sights_seeds c_img1_kept c_img1_world_keys c_img1_world_seed c_img1_sights_count c_img1_sights_seeds x1.2.1 x1.2.2.1 x1.2.2.2.1 x1.2.2.2.2.1 x1.2.2.2.2.2.1 x1.2.2.2.2.2.2.1 x1.2.2.2.2.2.2.2.1 x1.2.2.2.2.2.2.2.2.1 x1.2.2.2.2.2.2.2.2.2.1 x1.2.2.2.2.2.2.2.2.2.2.1 x1.2.2.2.2.2.2.2.2.2.2.2.1 x1.2.2.2.2.2.2.2.2.2.2.2.2.1 x1.2.2.2.2.2.2.2.2.2.2.2.2.2.1 x1.2.2.2.2.2.2.2.2.2.2.2.2.2.2.1 x1.2.2.2.2.2.2.2.2.2.2.2.2.2.2.2.1 x1.2.2.2.2.2.2.2.2.2.2.2.2.2.2.2.2.1 x1.2.2.2.2.2.2.2.2.2.2.2.2.2.2.2.2.2.1 x1.2.2.2.2.2.2.2.2.2.2.2.2.2.2.2.2.2.2.1 x1.2.2.2.2.2.2.2.2.2.2.2.2.2.2.2.2.2.2.2.1 x1.2.2.2.2.2.2.2.2.2.2.2.2.2.2.2.2.2.2.2.2.1 x1.2.2.2.2.2.2.2.2.2.2.2.2.2.2.2.2.2.2.2.2.2.1 x1.2.2.2.2.2.2.2.2.2.2.2.2.2.2.2.2.2.2.2.2.2.2.1 x1.2.2.2.2.2.2.2.2.2.2.2.2.2.2.2.2.2.2.2.2.2.2.2.1 x1.2.2.2.2.2.2.2.2.2.2.2.2.2.2.2.2.2.2.2.2.2.2.2.2.1 x1.2.2.2.2.2.2.2.2.2.2.2.2.2.2.2.2.2.2.2.2.2.2.2.2.2.1 x1.2.2.2.2.2.2.2.2.2.2.2.2.2.2.2.2.2.2.2.2.2.2.2.2.2.2.1 x1.2.2.2.2.2.2.2.2.2.2.2.2.2.2.2.2.2.2.2.2.2.2.2.2.2.2.2.1 x1.2.2.2.2.2.2.2.2.2.2.2.2.2.2.2.2.2.2.2.2.2.2.2.2.2.2.2.2.1 x1.2.2.2.2.2.2.2.2.2.2.2.2.2.2.2.2.2.2.2.2.2.2.2.2.2.2.2.2.2.1 x1.2.2.2.2.2.2.2.2.2.2.2.2.2.2.2.2.2.2.2.2.2.2.2.2.2.2.2.2.2.2.1 x1.2.2.2.2.2.2.2.2.2.2.2.2.2.2.2.2.2.2.2.2.2.2.2.2.2.2.2.2.2.2.2.1 x1.2.2.2.2.2.2.2.2.2.2.2.2.2.2.2.2.2.2.2.2.2.2.2.2.2.2.2.2.2.2.2.2.1 x1.2.2.2.2.2.2.2.2.2.2.2.2.2.2.2.2.2.2.2.2.2.2.2.2.2.2.2.2.2.2.2.2.2)) (As := []) (rest := []) G koX7_102 (r_X2_clear (o := (o + 5)) H_x3) (Nat.le_of_ble_eq_true rfl) 2 rfl rfl [5, 6] [0, 1, 2, 3, 4, 7, 8, 9, 10, 11, 12, 13, 14, 15, 16, 17, 18, 19, 20, 21, 22, 23, 24, 25, 26, 27, 28, 29, 30, 31, 32, 33, 34, 35, 36, 37, 38, 39, 40, 41, 42, 43] [0, 1, 2, 3, 4, 42, 43, 5, 6, 7, 8, 9, 10, 11, 12, 13, 14, 15, 16, 17, 18, 19, 20, 21, 22, 23, 24, 25, 26, 27, 28, 29, 30, 31, 32, 33, 34, 35, 36, 37, 38, 39, 40, 41] rfl rfl rfl rfl rfl rfl rfl rfl rfl (Nat.le_of_ble_eq_true rfl) ⟨Nat.zero_le _, Nat.zero_le _⟩ dX7_done_29 rfl rfl ?_
    refine w_aload_n (pc2 := 33) G 1 rfl dX7_done_32 rfl rfl ?_
    refine w_get (pc2 := 36) G foX7_42 0 rfl rfl dX7_done_33 rfl ?_
    refine w_get (pc2 := 39) G foX7_115 20 rfl rfl dX7_done_36 rfl ?_
    cases h
    exact w_iret G hQ rfl ⟨rfl, rfl⟩ dX7_done_39
  · replace h := (if_neg cc).symm.trans h
    refine w_iload_n (pc2 := 10) G 0 rfl dX7_done_9 rfl rfl ?_
    cases h
    exact w_iret G hQ rfl ⟨rfl, rfl⟩ dX7_done_10

set_option maxHeartbeats 4000000 in
set_option maxRecDepth 100000 in
theorem r_X7_node {l : Launch} {E : EV} {a : Nat → Nat} {o : Nat} {c_now_keys : Nat → Int64} {c_now_seed : Int32} {c_drawn_keys : Nat → Int64} {c_drawn_seed : Int32} {c_pad_signs : Nat → Int32} {c_pad_count c_sights_count : Int32} {c_sights_seeds : Nat → Int64} {c_img0_kept : Int32} {c_img0_world_keys : Nat → Int64} {c_img0_world_seed c_img0_sights_count : Int32} {c_img0_sights_seeds : Nat → Int64} {c_img1_kept : Int32} {c_img1_world_keys : Nat → Int64} {c_img1_world_seed c_img1_sights_count : Int32} {c_img1_sights_seeds : Nat → Int64} {c_trial_act_kind c_trial_act_set c_trial_act_key c_trial_act_other : Int32} {c_trial_tb_left c_trial_tb_right c_trial_tb_parent : Nat → Int32} {c_trial_tb_span : Nat → Int64} {c_trial_tb_root : Int32} {c_trial_tb_digest c_trial_tb_height c_trial_tb_priority : Nat → Int32} {c_trial_tb_pricedBy : Int32} {c_trial_tb_open c_trial_ta_left c_trial_ta_right c_trial_ta_parent : Nat → Int32} {c_trial_ta_span : Nat → Int64} {c_trial_ta_root : Int32} {c_trial_ta_digest c_trial_ta_height c_trial_ta_priority : Nat → Int32} {c_trial_ta_pricedBy : Int32} {c_trial_ta_open : Nat → Int32} {c_trial_after_keys : Nat → Int64} {c_trial_after_seed : Int32} {c_trial_before_keys : Nat → Int64} {c_trial_before_seed c_trial_acts c_trial_whyNot c_trial_work c_trial_alikeAct c_trial_alikePair : Int32} {l1 : Int32} {l2 : Int32} {l3 : Int32} {R : Int32 × (Nat → Int32) × (Nat → Int32) × (Nat → Int32) × (Nat → Int64) × Int32 × (Nat → Int32) × (Nat → Int32) × (Nat → Int32) × Int32 × (Nat → Int32)} (h : f_X7_node c_now_keys c_now_seed c_trial_tb_left c_trial_tb_right c_trial_tb_parent c_trial_tb_span c_trial_tb_root c_trial_tb_digest c_trial_tb_height c_trial_tb_priority c_trial_tb_pricedBy c_trial_tb_open l1 l2 l3 = some R) : Ret1 l E yX7_node cX7_node 4 (some .int) 3 (wX7 E a o c_now_keys c_now_seed c_drawn_keys c_drawn_seed c_pad_signs c_pad_count c_sights_count c_sights_seeds c_img0_kept c_img0_world_keys c_img0_world_seed c_img0_sights_count c_img0_sights_seeds c_img1_kept c_img1_world_keys c_img1_world_seed c_img1_sights_count c_img1_sights_seeds c_trial_act_kind c_trial_act_set c_trial_act_key c_trial_act_other c_trial_tb_left c_trial_tb_right c_trial_tb_parent c_trial_tb_span c_trial_tb_root c_trial_tb_digest c_trial_tb_height c_trial_tb_priority c_trial_tb_pricedBy c_trial_tb_open c_trial_ta_left c_trial_ta_right c_trial_ta_parent c_trial_ta_span c_trial_ta_root c_trial_ta_digest c_trial_ta_height c_trial_ta_priority c_trial_ta_pricedBy c_trial_ta_open c_trial_after_keys c_trial_after_seed c_trial_before_keys c_trial_before_seed c_trial_acts c_trial_whyNot c_trial_work c_trial_alikeAct c_trial_alikePair) [.ref (a o), .int l1, .int l2, .int l3] (some (.int R.1)) (wX7 E a o c_now_keys c_now_seed c_drawn_keys c_drawn_seed c_pad_signs c_pad_count c_sights_count c_sights_seeds c_img0_kept c_img0_world_keys c_img0_world_seed c_img0_sights_count c_img0_sights_seeds c_img1_kept c_img1_world_keys c_img1_world_seed c_img1_sights_count c_img1_sights_seeds c_trial_act_kind c_trial_act_set c_trial_act_key c_trial_act_other R.2.1 R.2.2.1 R.2.2.2.1 R.2.2.2.2.1 R.2.2.2.2.2.1 R.2.2.2.2.2.2.1 R.2.2.2.2.2.2.2.1 R.2.2.2.2.2.2.2.2.1 R.2.2.2.2.2.2.2.2.2.1 R.2.2.2.2.2.2.2.2.2.2 c_trial_ta_left c_trial_ta_right c_trial_ta_parent c_trial_ta_span c_trial_ta_root c_trial_ta_digest c_trial_ta_height c_trial_ta_priority c_trial_ta_pricedBy c_trial_ta_open c_trial_after_keys c_trial_after_seed c_trial_before_keys c_trial_before_seed c_trial_acts c_trial_whyNot c_trial_work c_trial_alikeAct c_trial_alikePair) := by
  refine Ret.intro (lv := [(0, .ref (a o)), (1, .int l1), (2, .int l2), (3, .int l3)]) (by decide) (Nat.le_of_ble_eq_true rfl) rfl ?_
  intro g hgl G hQ
  subst hgl
  rw [f_X7_node] at h
  refine w_iload_n (pc2 := 1) G 1 rfl dX7_node_0 rfl rfl ?_
  obtain ⟨x1, H_x1, h⟩ := bs h
  refine w_cS0 (pc2 := 4) (As := [.int l1]) (rest := []) G koX7_73 (r_X7_isSet H_x1) (Nat.le_of_ble_eq_true rfl) rfl rfl (Nat.le_of_ble_eq_true rfl) ⟨Nat.zero_le _, Nat.zero_le _⟩ dX7_node_1 rfl rfl ?_
  refine w_if_eq (tgt := 14) (pc2 := 7) G dX7_node_4 (by decide) rfl (fun cc => ?_) (fun cc => ?_)
  · replace h := (if_pos cc).symm.trans h
    refine w_iconst (pc2 := 15) G dX7_node_14 k_iconst_m1 rfl ?_
    cases h
    exact w_iret G hQ rfl ⟨rfl, rfl⟩ dX7_node_15
  · replace h := (if_neg cc).symm.trans h
    refine w_iload_n (pc2 := 8) G 2 rfl dX7_node_7 rfl rfl ?_
    obtain ⟨x2, H_x2, h⟩ := bs h
    refine w_cS0 (pc2 := 11) (As := [.int l2]) (rest := []) G koX7_76 (r_X7_isKey H_x2) (Nat.le_of_ble_eq_true rfl) rfl rfl (Nat.le_of_ble_eq_true rfl) ⟨Nat.zero_le _, Nat.zero_le _⟩ dX7_node_8 rfl rfl ?_
    refine w_if_ne (tgt := 16) (pc2 := 14) G dX7_node_11 (by decide) rfl (fun cc => ?_) (fun cc => ?_)
    · replace h := (if_neg cc).symm.trans h
      refine w_iload_n (pc2 := 17) G 3 rfl dX7_node_16 rfl rfl ?_
      refine w_if_lt (tgt := 26) (pc2 := 20) G dX7_node_17 (by decide) rfl (fun cc => ?_) (fun cc => ?_)
      · replace h := (if_pos cc).symm.trans h
        refine w_bipush (pc2 := 28) G dX7_node_26 k_bipush_m2 rfl ?_
        cases h
        exact w_iret G hQ rfl ⟨rfl, rfl⟩ dX7_node_28
      · replace h := (if_neg cc).symm.trans h
        refine w_iload_n (pc2 := 21) G 3 rfl dX7_node_20 rfl rfl ?_
        refine w_bipush (pc2 := 23) G dX7_node_21 k_bipush_6 rfl ?_
        refine w_icmp_le (tgt := 29) (pc2 := 26) G dX7_node_23 (by decide) rfl (fun cc => ?_) (fun cc => ?_)
        · replace h := (if_pos cc).symm.trans h
          refine w_aload_n (pc2 := 30) G 0 rfl dX7_node_29 rfl rfl ?_
          refine w_get (pc2 := 33) G foX7_10 0 rfl rfl dX7_node_30 rfl ?_
          refine w_get (pc2 := 36) G foX7_79 1 rfl rfl dX7_node_33 rfl ?_
          refine w_iload_n (pc2 := 37) G 1 rfl dX7_node_36 rfl rfl ?_
          obtain ⟨v3, H_v3, h⟩ := bs h
          refine w_laldo (pc2 := 38) G 2 rfl H_v3 dX7_node_37 rfl ?_
          refine w_iload_n (pc2 := 39) G 2 rfl dX7_node_38 rfl rfl ?_
          obtain ⟨x4, H_x4, h⟩ := bs h
          refine w_cS0 (pc2 := 42) (As := [.long v3, .int l2]) (rest := []) G koX7_83 (r_X7_isIn H_x4) (Nat.le_of_ble_eq_true rfl) rfl rfl (Nat.le_of_ble_eq_true rfl) ⟨Nat.zero_le _, Nat.zero_le _⟩ dX7_node_39 rfl rfl ?_
          refine w_if_ne (tgt := 48) (pc2 := 45) G dX7_node_42 (by decide) rfl (fun cc => ?_) (fun cc => ?_)
          · replace h := (if_neg cc).symm.trans h
            refine w_aload_n (pc2 := 49) G 0 rfl dX7_node_48 rfl rfl ?_
            refine w_get (pc2 := 52) G foX7_55 0 rfl rfl dX7_node_49 rfl ?_
            refine w_aload_n (pc2 := 53) G 0 rfl dX7_node_52 rfl rfl ?_
            refine w_get (pc2 := 56) G foX7_10 0 rfl rfl dX7_node_53 rfl ?_
            refine w_get (pc2 := 59) G foX7_79 1 rfl rfl dX7_node_56 rfl ?_
            refine w_iload_n (pc2 := 60) G 1 rfl dX7_node_59 rfl rfl ?_
            obtain ⟨v5, H_v5, h⟩ := bs h
            refine w_laldo (pc2 := 61) G 2 rfl H_v5 dX7_node_60 rfl ?_
            refine w_aload_n (pc2 := 62) G 0 rfl dX7_node_61 rfl rfl ?_
            refine w_get (pc2 := 65) G foX7_10 0 rfl rfl dX7_node_62 rfl ?_
            refine w_get (pc2 := 68) G foX7_69 1 rfl rfl dX7_node_65 rfl ?_
            obtain ⟨x6, H_x6, h⟩ := bs h
            refine w_cV1 (pc2 := 71) (ws2 := (wX7 E a o c_now_keys c_now_seed c_drawn_keys c_drawn_seed c_pad_signs c_pad_count c_sights_count c_sights_seeds c_img0_kept c_img0_world_keys c_img0_world_seed c_img0_sights_count c_img0_sights_seeds c_img1_kept c_img1_world_keys c_img1_world_seed c_img1_sights_count c_img1_sights_seeds c_trial_act_kind c_trial_act_set c_trial_act_key c_trial_act_other x6.1 x6.2.1 x6.2.2.1 x6.2.2.2.1 x6.2.2.2.2.1 x6.2.2.2.2.2.1 x6.2.2.2.2.2.2.1 x6.2.2.2.2.2.2.2.1 x6.2.2.2.2.2.2.2.2.1 x6.2.2.2.2.2.2.2.2.2 c_trial_ta_left c_trial_ta_right c_trial_ta_parent c_trial_ta_span c_trial_ta_root c_trial_ta_digest c_trial_ta_height c_trial_ta_priority c_trial_ta_pricedBy c_trial_ta_open c_trial_after_keys c_trial_after_seed c_trial_before_keys c_trial_before_seed c_trial_acts c_trial_whyNot c_trial_work c_trial_alikeAct c_trial_alikePair)) (As := [.long v5, .int c_now_seed]) (rest := []) G koX7_124 (r_X4_grow (o := (o + 22)) H_x6) (Nat.le_of_ble_eq_true rfl) 4 rfl rfl [22, 23, 24, 25, 26, 27, 28, 29, 30] [0, 1, 2, 3, 4, 5, 6, 7, 8, 9, 10, 11, 12, 13, 14, 15, 16, 17, 18, 19, 20, 21, 31, 32, 33, 34, 35, 36, 37, 38, 39, 40, 41, 42, 43] [0, 1, 2, 3, 4, 5, 6, 7, 8, 9, 10, 11, 12, 13, 14, 15, 16, 17, 18, 19, 20, 21, 35, 36, 37, 38, 39, 40, 41, 42, 43, 22, 23, 24, 25, 26, 27, 28, 29, 30, 31, 32, 33, 34] rfl rfl rfl rfl rfl rfl rfl rfl rfl (Nat.le_of_ble_eq_true rfl) ⟨Nat.zero_le _, Nat.zero_le _⟩ dX7_node_68 rfl rfl ?_
            refine w_iload_n (pc2 := 72) G 3 rfl dX7_node_71 rfl rfl ?_
            by_cases sdX7_node_72_0 : l3 = (0 : Int32)
            · replace h := (if_pos sdX7_node_72_0).symm.trans h
              refine w_tabIn (tgt := 112) G sdX7_node_72_0 dX7_node_72 (by decide) (by decide) rfl (by decide) ?_
              refine w_aload_n (pc2 := 113) G 0 rfl dX7_node_112 rfl rfl ?_
              refine w_get (pc2 := 116) G foX7_55 0 rfl rfl dX7_node_113 rfl ?_
              refine w_get (pc2 := 119) G foX7_157 22 rfl rfl dX7_node_116 rfl ?_
              refine w_iload_n (pc2 := 120) G 2 rfl dX7_node_119 rfl rfl ?_
              obtain ⟨v7, H_v7, h⟩ := bs h
              refine w_ialdo (pc2 := 121) G 25 rfl H_v7 dX7_node_120 rfl ?_
              cases h
              exact w_iret G hQ rfl ⟨rfl, rfl⟩ dX7_node_121
            replace h := (if_neg sdX7_node_72_0).symm.trans h
            by_cases sdX7_node_72_1 : l3 = (1 : Int32)
            · replace h := (if_pos sdX7_node_72_1).symm.trans h
              refine w_tabIn (tgt := 122) G sdX7_node_72_1 dX7_node_72 (by decide) (by decide) rfl (by decide) ?_
              refine w_aload_n (pc2 := 123) G 0 rfl dX7_node_122 rfl rfl ?_
              refine w_get (pc2 := 126) G foX7_55 0 rfl rfl dX7_node_123 rfl ?_
              refine w_get (pc2 := 129) G foX7_161 22 rfl rfl dX7_node_126 rfl ?_
              refine w_iload_n (pc2 := 130) G 2 rfl dX7_node_129 rfl rfl ?_
              obtain ⟨v8, H_v8, h⟩ := bs h
              refine w_ialdo (pc2 := 131) G 23 rfl H_v8 dX7_node_130 rfl ?_
              cases h
              exact w_iret G hQ rfl ⟨rfl, rfl⟩ dX7_node_131
            replace h := (if_neg sdX7_node_72_1).symm.trans h
            by_cases sdX7_node_72_2 : l3 = (2 : Int32)
            · replace h := (if_pos sdX7_node_72_2).symm.trans h
              refine w_tabIn (tgt := 132) G sdX7_node_72_2 dX7_node_72 (by decide) (by decide) rfl (by decide) ?_
              refine w_aload_n (pc2 := 133) G 0 rfl dX7_node_132 rfl rfl ?_
              refine w_get (pc2 := 136) G foX7_55 0 rfl rfl dX7_node_133 rfl ?_
              refine w_get (pc2 := 139) G foX7_164 22 rfl rfl dX7_node_136 rfl ?_
              refine w_iload_n (pc2 := 140) G 2 rfl dX7_node_139 rfl rfl ?_
              obtain ⟨v9, H_v9, h⟩ := bs h
              refine w_ialdo (pc2 := 141) G 24 rfl H_v9 dX7_node_140 rfl ?_
              cases h
              exact w_iret G hQ rfl ⟨rfl, rfl⟩ dX7_node_141
            replace h := (if_neg sdX7_node_72_2).symm.trans h
            by_cases sdX7_node_72_3 : l3 = (3 : Int32)
            · replace h := (if_pos sdX7_node_72_3).symm.trans h
              refine w_tabIn (tgt := 142) G sdX7_node_72_3 dX7_node_72 (by decide) (by decide) rfl (by decide) ?_
              refine w_aload_n (pc2 := 143) G 0 rfl dX7_node_142 rfl rfl ?_
              refine w_get (pc2 := 146) G foX7_55 0 rfl rfl dX7_node_143 rfl ?_
              refine w_iload_n (pc2 := 147) G 2 rfl dX7_node_146 rfl rfl ?_
              obtain ⟨x10, H_x10, h⟩ := bs h
              refine w_cV1 (pc2 := 150) (ws2 := (wX7 E a o c_now_keys c_now_seed c_drawn_keys c_drawn_seed c_pad_signs c_pad_count c_sights_count c_sights_seeds c_img0_kept c_img0_world_keys c_img0_world_seed c_img0_sights_count c_img0_sights_seeds c_img1_kept c_img1_world_keys c_img1_world_seed c_img1_sights_count c_img1_sights_seeds c_trial_act_kind c_trial_act_set c_trial_act_key c_trial_act_other x6.1 x6.2.1 x6.2.2.1 x6.2.2.2.1 x6.2.2.2.2.1 x6.2.2.2.2.2.1 x6.2.2.2.2.2.2.1 x6.2.2.2.2.2.2.2.1 x6.2.2.2.2.2.2.2.2.1 x6.2.2.2.2.2.2.2.2.2 c_trial_ta_left c_trial_ta_right c_trial_ta_parent c_trial_ta_span c_trial_ta_root c_trial_ta_digest c_trial_ta_height c_trial_ta_priority c_trial_ta_pricedBy c_trial_ta_open c_trial_after_keys c_trial_after_seed c_trial_before_keys c_trial_before_seed c_trial_acts c_trial_whyNot c_trial_work c_trial_alikeAct c_trial_alikePair)) (As := [.int l2]) (rest := []) G koX7_133 (r_X4_sizeBelow (o := (o + 22)) H_x10) (Nat.le_of_ble_eq_true rfl) 4 rfl rfl [22, 23, 24, 25, 26, 27, 28, 29, 30] [0, 1, 2, 3, 4, 5, 6, 7, 8, 9, 10, 11, 12, 13, 14, 15, 16, 17, 18, 19, 20, 21, 31, 32, 33, 34, 35, 36, 37, 38, 39, 40, 41, 42, 43] [0, 1, 2, 3, 4, 5, 6, 7, 8, 9, 10, 11, 12, 13, 14, 15, 16, 17, 18, 19, 20, 21, 35, 36, 37, 38, 39, 40, 41, 42, 43, 22, 23, 24, 25, 26, 27, 28, 29, 30, 31, 32, 33, 34] rfl rfl rfl rfl rfl rfl rfl rfl rfl (Nat.le_of_ble_eq_true rfl) ⟨Nat.zero_le _, Nat.zero_le _⟩ dX7_node_147 rfl rfl ?_
              cases h
              exact w_iret G hQ rfl ⟨rfl, rfl⟩ dX7_node_150
            replace h := (if_neg sdX7_node_72_3).symm.trans h
            by_cases sdX7_node_72_4 : l3 = (4 : Int32)
            · replace h := (if_pos sdX7_node_72_4).symm.trans h
              refine w_tabIn (tgt := 151) G sdX7_node_72_4 dX7_node_72 (by decide) (by decide) rfl (by decide) ?_
              refine w_aload_n (pc2 := 152) G 0 rfl dX7_node_151 rfl rfl ?_
              refine w_get (pc2 := 155) G foX7_55 0 rfl rfl dX7_node_152 rfl ?_
              refine w_iload_n (pc2 := 156) G 2 rfl dX7_node_155 rfl rfl ?_
              obtain ⟨x11, H_x11, h⟩ := bs h
              refine w_cV1 (pc2 := 159) (ws2 := (wX7 E a o c_now_keys c_now_seed c_drawn_keys c_drawn_seed c_pad_signs c_pad_count c_sights_count c_sights_seeds c_img0_kept c_img0_world_keys c_img0_world_seed c_img0_sights_count c_img0_sights_seeds c_img1_kept c_img1_world_keys c_img1_world_seed c_img1_sights_count c_img1_sights_seeds c_trial_act_kind c_trial_act_set c_trial_act_key c_trial_act_other x6.1 x6.2.1 x6.2.2.1 x6.2.2.2.1 x6.2.2.2.2.1 x6.2.2.2.2.2.1 x6.2.2.2.2.2.2.1 x6.2.2.2.2.2.2.2.1 x6.2.2.2.2.2.2.2.2.1 x6.2.2.2.2.2.2.2.2.2 c_trial_ta_left c_trial_ta_right c_trial_ta_parent c_trial_ta_span c_trial_ta_root c_trial_ta_digest c_trial_ta_height c_trial_ta_priority c_trial_ta_pricedBy c_trial_ta_open c_trial_after_keys c_trial_after_seed c_trial_before_keys c_trial_before_seed c_trial_acts c_trial_whyNot c_trial_work c_trial_alikeAct c_trial_alikePair)) (As := [.int l2]) (rest := []) G koX7_137 (r_X4_digestBelow (o := (o + 22)) H_x11) (Nat.le_of_ble_eq_true rfl) 4 rfl rfl [22, 23, 24, 25, 26, 27, 28, 29, 30] [0, 1, 2, 3, 4, 5, 6, 7, 8, 9, 10, 11, 12, 13, 14, 15, 16, 17, 18, 19, 20, 21, 31, 32, 33, 34, 35, 36, 37, 38, 39, 40, 41, 42, 43] [0, 1, 2, 3, 4, 5, 6, 7, 8, 9, 10, 11, 12, 13, 14, 15, 16, 17, 18, 19, 20, 21, 35, 36, 37, 38, 39, 40, 41, 42, 43, 22, 23, 24, 25, 26, 27, 28, 29, 30, 31, 32, 33, 34] rfl rfl rfl rfl rfl rfl rfl rfl rfl (Nat.le_of_ble_eq_true rfl) ⟨Nat.zero_le _, Nat.zero_le _⟩ dX7_node_156 rfl rfl ?_
              cases h
              exact w_iret G hQ rfl ⟨rfl, rfl⟩ dX7_node_159
            replace h := (if_neg sdX7_node_72_4).symm.trans h
            by_cases sdX7_node_72_5 : l3 = (5 : Int32)
            · replace h := (if_pos sdX7_node_72_5).symm.trans h
              refine w_tabIn (tgt := 160) G sdX7_node_72_5 dX7_node_72 (by decide) (by decide) rfl (by decide) ?_
              refine w_aload_n (pc2 := 161) G 0 rfl dX7_node_160 rfl rfl ?_
              refine w_get (pc2 := 164) G foX7_55 0 rfl rfl dX7_node_161 rfl ?_
              refine w_iload_n (pc2 := 165) G 2 rfl dX7_node_164 rfl rfl ?_
              obtain ⟨x12, H_x12, h⟩ := bs h
              refine w_cV1 (pc2 := 168) (ws2 := (wX7 E a o c_now_keys c_now_seed c_drawn_keys c_drawn_seed c_pad_signs c_pad_count c_sights_count c_sights_seeds c_img0_kept c_img0_world_keys c_img0_world_seed c_img0_sights_count c_img0_sights_seeds c_img1_kept c_img1_world_keys c_img1_world_seed c_img1_sights_count c_img1_sights_seeds c_trial_act_kind c_trial_act_set c_trial_act_key c_trial_act_other x6.1 x6.2.1 x6.2.2.1 x6.2.2.2.1 x6.2.2.2.2.1 x6.2.2.2.2.2.1 x6.2.2.2.2.2.2.1 x6.2.2.2.2.2.2.2.1 x6.2.2.2.2.2.2.2.2.1 x6.2.2.2.2.2.2.2.2.2 c_trial_ta_left c_trial_ta_right c_trial_ta_parent c_trial_ta_span c_trial_ta_root c_trial_ta_digest c_trial_ta_height c_trial_ta_priority c_trial_ta_pricedBy c_trial_ta_open c_trial_after_keys c_trial_after_seed c_trial_before_keys c_trial_before_seed c_trial_acts c_trial_whyNot c_trial_work c_trial_alikeAct c_trial_alikePair)) (As := [.int l2]) (rest := []) G koX7_167 (r_X4_depth (o := (o + 22)) H_x12) (Nat.le_of_ble_eq_true rfl) 4 rfl rfl [22, 23, 24, 25, 26, 27, 28, 29, 30] [0, 1, 2, 3, 4, 5, 6, 7, 8, 9, 10, 11, 12, 13, 14, 15, 16, 17, 18, 19, 20, 21, 31, 32, 33, 34, 35, 36, 37, 38, 39, 40, 41, 42, 43] [0, 1, 2, 3, 4, 5, 6, 7, 8, 9, 10, 11, 12, 13, 14, 15, 16, 17, 18, 19, 20, 21, 35, 36, 37, 38, 39, 40, 41, 42, 43, 22, 23, 24, 25, 26, 27, 28, 29, 30, 31, 32, 33, 34] rfl rfl rfl rfl rfl rfl rfl rfl rfl (Nat.le_of_ble_eq_true rfl) ⟨Nat.zero_le _, Nat.zero_le _⟩ dX7_node_165 rfl rfl ?_
              cases h
              exact w_iret G hQ rfl ⟨rfl, rfl⟩ dX7_node_168
            replace h := (if_neg sdX7_node_72_5).symm.trans h
            refine w_tabOut (tgt := 169) G dX7_node_72 (by have e0 := ne_ti sdX7_node_72_0; have e1 := ne_ti sdX7_node_72_1; have e2 := ne_ti sdX7_node_72_2; have e3 := ne_ti sdX7_node_72_3; have e4 := ne_ti sdX7_node_72_4; have e5 := ne_ti sdX7_node_72_5; rw [show (0 : Int32).toInt = 0 from rfl] at e0; rw [show (1 : Int32).toInt = 1 from rfl] at e1; rw [show (2 : Int32).toInt = 2 from rfl] at e2; rw [show (3 : Int32).toInt = 3 from rfl] at e3; rw [show (4 : Int32).toInt = 4 from rfl] at e4; rw [show (5 : Int32).toInt = 5 from rfl] at e5; omega) (by decide) ?_
            refine w_aload_n (pc2 := 170) G 0 rfl dX7_node_169 rfl rfl ?_
            refine w_get (pc2 := 173) G foX7_10 0 rfl rfl dX7_node_170 rfl ?_
            refine w_get (pc2 := 176) G foX7_69 1 rfl rfl dX7_node_173 rfl ?_
            refine w_iload_n (pc2 := 177) G 2 rfl dX7_node_176 rfl rfl ?_
            obtain ⟨x13, H_x13, h⟩ := bs h
            refine w_cS0 (pc2 := 180) (As := [.int c_now_seed, .int l2]) (rest := []) G koX7_170 (r_X7_priority H_x13) (Nat.le_of_ble_eq_true rfl) rfl rfl (Nat.le_of_ble_eq_true rfl) ⟨Nat.zero_le _, Nat.zero_le _⟩ dX7_node_177 rfl rfl ?_
            cases h
            exact w_iret G hQ rfl ⟨rfl, rfl⟩ dX7_node_180
          · replace h := (if_pos cc).symm.trans h
            refine w_bipush (pc2 := 47) G dX7_node_45 k_bipush_m3 rfl ?_
            cases h
            exact w_iret G hQ rfl ⟨rfl, rfl⟩ dX7_node_47
        · replace h := (if_neg cc).symm.trans h
          refine w_bipush (pc2 := 28) G dX7_node_26 k_bipush_m2 rfl ?_
          cases h
          exact w_iret G hQ rfl ⟨rfl, rfl⟩ dX7_node_28
    · replace h := (if_pos cc).symm.trans h
      refine w_iconst (pc2 := 15) G dX7_node_14 k_iconst_m1 rfl ?_
      cases h
      exact w_iret G hQ rfl ⟨rfl, rfl⟩ dX7_node_15
