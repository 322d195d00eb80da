set_option maxHeartbeats 4000000 in
set_option maxRecDepth 100000 in
theorem r_X7_place {l : Launch} {E : EV} {a : Nat → Nat} {o : Nat} {c_now_keys : Nat → Int64} {c_now_seed : Int32} {c_drawn_keys : Nat → Int64} {c_drawn_seed : Int32} {c_pad_signs : Nat → Int32} {c_pad_count c_sights_count : Int32} {c_sights_seeds : Nat → Int64} {c_img0_kept : Int32} {c_img0_world_keys : Nat → Int64} {c_img0_world_seed c_img0_sights_count : Int32} {c_img0_sights_seeds : Nat → Int64} {c_img1_kept : Int32} {c_img1_world_keys : Nat → Int64} {c_img1_world_seed c_img1_sights_count : Int32} {c_img1_sights_seeds : Nat → Int64} {c_trial_act_kind c_trial_act_set c_trial_act_key c_trial_act_other : Int32} {c_trial_tb_left c_trial_tb_right c_trial_tb_parent : Nat → Int32} {c_trial_tb_span : Nat → Int64} {c_trial_tb_root : Int32} {c_trial_tb_digest c_trial_tb_height c_trial_tb_priority : Nat → Int32} {c_trial_tb_pricedBy : Int32} {c_trial_tb_open c_trial_ta_left c_trial_ta_right c_trial_ta_parent : Nat → Int32} {c_trial_ta_span : Nat → Int64} {c_trial_ta_root : Int32} {c_trial_ta_digest c_trial_ta_height c_trial_ta_priority : Nat → Int32} {c_trial_ta_pricedBy : Int32} {c_trial_ta_open : Nat → Int32} {c_trial_after_keys : Nat → Int64} {c_trial_after_seed : Int32} {c_trial_before_keys : Nat → Int64} {c_trial_before_seed c_trial_acts c_trial_whyNot c_trial_work c_trial_alikeAct c_trial_alikePair : Int32} {l1 : Int32} {l2 : Int32} {R : Int32} (h : f_X7_place c_now_keys l1 l2 = some R) : Ret1 l E yX7_place cX7_place 3 (some .int) 2 (wX7 E a o c_now_keys c_now_seed c_drawn_keys c_drawn_seed c_pad_signs c_pad_count c_sights_count c_sights_seeds c_img0_kept c_img0_world_keys c_img0_world_seed c_img0_sights_count c_img0_sights_seeds c_img1_kept c_img1_world_keys c_img1_world_seed c_img1_sights_count c_img1_sights_seeds c_trial_act_kind c_trial_act_set c_trial_act_key c_trial_act_other c_trial_tb_left c_trial_tb_right c_trial_tb_parent c_trial_tb_span c_trial_tb_root c_trial_tb_digest c_trial_tb_height c_trial_tb_priority c_trial_tb_pricedBy c_trial_tb_open c_trial_ta_left c_trial_ta_right c_trial_ta_parent c_trial_ta_span c_trial_ta_root c_trial_ta_digest c_trial_ta_height c_trial_ta_priority c_trial_ta_pricedBy c_trial_ta_open c_trial_after_keys c_trial_after_seed c_trial_before_keys c_trial_before_seed c_trial_acts c_trial_whyNot c_trial_work c_trial_alikeAct c_trial_alikePair) [.ref (a o), .int l1, .int l2] (some (.int R)) (wX7 E a o c_now_keys c_now_seed c_drawn_keys c_drawn_seed c_pad_signs c_pad_count c_sights_count c_sights_seeds c_img0_kept c_img0_world_keys c_img0_world_seed c_img0_sights_count c_img0_sights_seeds c_img1_kept c_img1_world_keys c_img1_world_seed c_img1_sights_count c_img1_sights_seeds c_trial_act_kind c_trial_act_set c_trial_act_key c_trial_act_other c_trial_tb_left c_trial_tb_right c_trial_tb_parent c_trial_tb_span c_trial_tb_root c_trial_tb_digest c_trial_tb_height c_trial_tb_priority c_trial_tb_pricedBy c_trial_tb_open c_trial_ta_left c_trial_ta_right c_trial_ta_parent c_trial_ta_span c_trial_ta_root c_trial_ta_digest c_trial_ta_height c_trial_ta_priority c_trial_ta_pricedBy c_trial_ta_open c_trial_after_keys c_trial_after_seed c_trial_before_keys c_trial_before_seed c_trial_acts c_trial_whyNot c_trial_work c_trial_alikeAct c_trial_alikePair) := by
  refine Ret.intro (lv := [(0, .ref (a o)), (1, .int l1), (2, .int l2)]) (by decide) (Nat.le_of_ble_eq_true rfl) rfl ?_
  intro g hgl G hQ
  subst hgl
  rw [f_X7_place] at h
  refine w_iload_n (pc2 := 1) G 1 rfl dX7_place_0 rfl rfl ?_
  obtain ⟨x1, H_x1, h⟩ := bs h
  refine w_cS0 (pc2 := 4) (As := [.int l1]) (rest := []) G koX7_73 (r_X7_isSet H_x1) (Nat.le_of_ble_eq_true rfl) rfl rfl (Nat.le_of_ble_eq_true rfl) ⟨Nat.zero_le _, Nat.zero_le _⟩ dX7_place_1 rfl rfl ?_
  refine w_if_eq (tgt := 14) (pc2 := 7) G dX7_place_4 (by decide) rfl (fun cc => ?_) (fun cc => ?_)
  · replace h := (if_pos cc).symm.trans h
    refine w_iconst (pc2 := 15) G dX7_place_14 k_iconst_m1 rfl ?_
    cases h
    exact w_iret G hQ rfl ⟨rfl, rfl⟩ dX7_place_15
  · replace h := (if_neg cc).symm.trans h
    refine w_iload_n (pc2 := 8) G 2 rfl dX7_place_7 rfl rfl ?_
    obtain ⟨x2, H_x2, h⟩ := bs h
    refine w_cS0 (pc2 := 11) (As := [.int l2]) (rest := []) G koX7_76 (r_X7_isKey H_x2) (Nat.le_of_ble_eq_true rfl) rfl rfl (Nat.le_of_ble_eq_true rfl) ⟨Nat.zero_le _, Nat.zero_le _⟩ dX7_place_8 rfl rfl ?_
    refine w_if_ne (tgt := 16) (pc2 := 14) G dX7_place_11 (by decide) rfl (fun cc => ?_) (fun cc => ?_)
    · replace h := (if_neg cc).symm.trans h
      refine w_aload_n (pc2 := 17) G 0 rfl dX7_place_16 rfl rfl ?_
      refine w_get (pc2 := 20) G foX7_10 0 rfl rfl dX7_place_17 rfl ?_
      refine w_get (pc2 := 23) G foX7_79 1 rfl rfl dX7_place_20 rfl ?_
      refine w_iload_n (pc2 := 24) G 1 rfl dX7_place_23 rfl rfl ?_
      obtain ⟨v3, H_v3, h⟩ := bs h
      refine w_laldo (pc2 := 25) G 2 rfl H_v3 dX7_place_24 rfl ?_
      refine w_iload_n (pc2 := 26) G 2 rfl dX7_place_25 rfl rfl ?_
      obtain ⟨x4, H_x4, h⟩ := bs h
      refine w_cS0 (pc2 := 29) (As := [.int l2]) (rest := [.long v3]) G koX7_174 (r_X7_less H_x4) (Nat.le_of_ble_eq_true rfl) rfl rfl (Nat.le_of_ble_eq_true rfl) ⟨Nat.zero_le _, Nat.zero_le _⟩ dX7_place_26 rfl rfl ?_
      refine w_land (pc2 := 30) G dX7_place_29 rfl ?_
      obtain ⟨x5, H_x5, h⟩ := bs h
      refine w_cS0 (pc2 := 33) (As := [.long (v3 &&& x4)]) (rest := []) G koX7_87 (r_X7_count H_x5) (Nat.le_of_ble_eq_true rfl) rfl rfl (Nat.le_of_ble_eq_true rfl) ⟨Nat.zero_le _, Nat.zero_le _⟩ dX7_place_30 rfl rfl ?_
      cases h
      exact w_iret G hQ rfl ⟨rfl, rfl⟩ dX7_place_33
    · replace h := (if_pos cc).symm.trans h
      refine w_iconst (pc2 := 15) G dX7_place_14 k_iconst_m1 rfl ?_
      cases h
      exact w_iret G hQ rfl ⟨rfl, rfl⟩ dX7_place_15

set_option maxHeartbeats 4000000 in
set_option maxRecDepth 100000 in
theorem lp_X7_pick_5 {g : CX} {E : EV}   (G : GG g E RX7 cX7_pick 5 (some .int) 2 0 0) {R : Int32}  (hQ : RQ g E 0 0 (fun v2 w2 => v2 = (some (.int R)) ∧ w2 = [])) : ∀ (n : Nat) (l0 : Int64) (l2 : Int32) (l3 : Int32) (l4 : Int32), L_X7_pick_5 n l0 l2 l3 l4 = some R → WW g E 5 0 0 [] [(0, .long l0), (2, .int l2), (3, .int l3), (4, .int l4)] 5 [] := by
  intro n
  induction n with
  | zero => intro l0 l2 l3 l4 h; exact no_some h
  | succ n ih =>
    intro l0 l2 l3 l4 h
    rw [L_X7_pick_5] at h
    refine w_iload (pc2 := 7) G 3 rfl dX7_pick_5 rfl ?_
    refine w_bipush (pc2 := 9) G dX7_pick_7 k_bipush_50 rfl ?_
    refine w_icmp_ge (tgt := 38) (pc2 := 12) G dX7_pick_9 (by decide) rfl (fun cc => ?_) (fun cc => ?_)
    · replace h := (if_pos cc).symm.trans h
      refine w_bipush (pc2 := 40) G dX7_pick_38 k_bipush_m6 rfl ?_
      cases h
      exact w_iret G hQ rfl ⟨rfl, rfl⟩ dX7_pick_40
    · replace h := (if_neg cc).symm.trans h
      refine w_lload_n (pc2 := 13) G 0 rfl dX7_pick_12 rfl rfl ?_
      refine w_iload (pc2 := 15) G 3 rfl dX7_pick_13 rfl ?_
      obtain ⟨x1, H_x1, h⟩ := bs h
      refine w_cS0 (pc2 := 18) (As := [.long l0, .int l4]) (rest := []) G koX7_83 (r_X7_isIn H_x1) (Nat.le_of_ble_eq_true rfl) rfl rfl (Nat.le_of_ble_eq_true rfl) ⟨Nat.zero_le _, Nat.zero_le _⟩ dX7_pick_15 rfl rfl ?_
      refine w_if_eq (tgt := 32) (pc2 := 21) G dX7_pick_18 (by decide) rfl (fun cc => ?_) (fun cc => ?_)
      · replace h := (if_pos cc).symm.trans h
        refine w_iinc (pc2 := 35) (lv2 := [(4, .int (l4 + (1 : Int32))), (0, .long l0), (2, .int l2), (3, .int l3)]) G 3 rfl dX7_pick_32 k_iconst_1 (Nat.le_of_ble_eq_true rfl) rfl rfl ?_
        refine w_goto (tgt := 5) G dX7_pick_35 (by decide) ?_
        exact w_lv [1, 2, 3, 0] rfl (ih _ _ _ _ h )
      · replace h := (if_neg cc).symm.trans h
        refine w_iload_n (pc2 := 22) G 2 rfl dX7_pick_21 rfl rfl ?_
        refine w_iload_n (pc2 := 23) G 1 rfl dX7_pick_22 rfl rfl ?_
        refine w_icmp_ne (tgt := 29) (pc2 := 26) G dX7_pick_23 (by decide) rfl (fun cc => ?_) (fun cc => ?_)
        · replace h := (if_neg cc).symm.trans h
          refine w_iinc (pc2 := 32) (lv2 := [(3, .int (l3 + (1 : Int32))), (0, .long l0), (2, .int l2), (4, .int l4)]) G 2 rfl dX7_pick_29 k_iconst_1 (Nat.le_of_ble_eq_true rfl) rfl rfl ?_
          refine w_iinc (pc2 := 35) (lv2 := [(4, .int (l4 + (1 : Int32))), (3, .int (l3 + (1 : Int32))), (0, .long l0), (2, .int l2)]) G 3 rfl dX7_pick_32 k_iconst_1 (Nat.le_of_ble_eq_true rfl) rfl rfl ?_
          refine w_goto (tgt := 5) G dX7_pick_35 (by decide) ?_
          exact w_lv [2, 3, 1, 0] rfl (ih _ _ _ _ h )
        · replace h := (if_pos cc).symm.trans h
          refine w_iload (pc2 := 28) G 3 rfl dX7_pick_26 rfl ?_
          cases h
          exact w_iret G hQ rfl ⟨rfl, rfl⟩ dX7_pick_28
set_option maxHeartbeats 4000000 in
set_option maxRecDepth 100000 in
theorem r_X7_pick {l : Launch} {E : EV}  {l0 : Int64} {l2 : Int32} {R : Int32} (h : f_X7_pick l0 l2 = some R) : Ret1 l E yX7_pick cX7_pick 5 (some .int) 2 [] [.long l0, .int l2] (some (.int R)) [] := by
  refine Ret.intro (lv := [(0, .long l0), (2, .int l2)]) (by decide) (Nat.le_of_ble_eq_true rfl) rfl ?_
  intro g hgl G hQ
  subst hgl
  rw [f_X7_pick] at h
  refine w_iconst (pc2 := 1) G dX7_pick_0 k_iconst_0 rfl ?_
  refine w_istore_n (pc2 := 2) (lv2 := [(3, .int (0 : Int32)), (0, .long l0), (2, .int l2)]) G dX7_pick_1 rfl (Nat.le_of_ble_eq_true rfl) rfl rfl ?_
  refine w_iconst (pc2 := 3) G dX7_pick_2 k_iconst_0 rfl ?_
  refine w_istore (pc2 := 5) (lv2 := [(4, .int (0 : Int32)), (3, .int (0 : Int32)), (0, .long l0), (2, .int l2)]) G dX7_pick_3 (Nat.le_of_ble_eq_true rfl) rfl rfl ?_
  exact w_lv [2, 3, 1, 0] rfl (lp_X7_pick_5 G hQ 20000 _ _ _ _ h)

set_option maxHeartbeats 4000000 in
set_option maxRecDepth 100000 in
theorem r_X7_at {l : Launch} {E : EV} {a : Nat → Nat} {o : Nat} {c_now_keys : Nat → Int64} {c_now_seed : Int32} {c_drawn_keys : Nat → Int64} {c_drawn_seed : Int32} {c_pad_signs : Nat → Int32} {c_pad_count c_sights_count : Int32} {c_sights_seeds : Nat → Int64} {c_img0_kept : Int32} {c_img0_world_keys : Nat → Int64} {c_img0_world_seed c_img0_sights_count : Int32} {c_img0_sights_seeds : Nat → Int64} {c_img1_kept : Int32} {c_img1_world_keys : Nat → Int64} {c_img1_world_seed c_img1_sights_count : Int32} {c_img1_sights_seeds : Nat → Int64} {c_trial_act_kind c_trial_act_set c_trial_act_key c_trial_act_other : Int32} {c_trial_tb_left c_trial_tb_right c_trial_tb_parent : Nat → Int32} {c_trial_tb_span : Nat → Int64} {c_trial_tb_root : Int32} {c_trial_tb_digest c_trial_tb_height c_trial_tb_priority : Nat → Int32} {c_trial_tb_pricedBy : Int32} {c_trial_tb_open c_trial_ta_left c_trial_ta_right c_trial_ta_parent : Nat → Int32} {c_trial_ta_span : Nat → Int64} {c_trial_ta_root : Int32} {c_trial_ta_digest c_trial_ta_height c_trial_ta_priority : Nat → Int32} {c_trial_ta_pricedBy : Int32} {c_trial_ta_open : Nat → Int32} {c_trial_after_keys : Nat → Int64} {c_trial_after_seed : Int32} {c_trial_before_keys : Nat → Int64} {c_trial_before_seed c_trial_acts c_trial_whyNot c_trial_work c_trial_alikeAct c_trial_alikePair : Int32} {l1 : Int32} {l2 : Int32} {R : Int32} (h : f_X7_at c_now_keys l1 l2 = some R) : Ret1 l E yX7_at cX7_at 3 (some .int) 3 (wX7 E a o c_now_keys c_now_seed c_drawn_keys c_drawn_seed c_pad_signs c_pad_count c_sights_count c_sights_seeds c_img0_kept c_img0_world_keys c_img0_world_seed c_img0_sights_count c_img0_sights_seeds c_img1_kept c_img1_world_keys c_img1_world_seed c_img1_sights_count c_img1_sights_seeds c_trial_act_kind c_trial_act_set c_trial_act_key c_trial_act_other c_trial_tb_left c_trial_tb_right c_trial_tb_parent c_trial_tb_span c_trial_tb_root c_trial_tb_digest c_trial_tb_height c_trial_tb_priority c_trial_tb_pricedBy c_trial_tb_open c_trial_ta_left c_trial_ta_right c_trial_ta_parent c_trial_ta_span c_trial_ta_root c_trial_ta_digest c_trial_ta_height c_trial_ta_priority c_trial_ta_pricedBy c_trial_ta_open c_trial_after_keys c_trial_after_seed c_trial_before_keys c_trial_before_seed c_trial_acts c_trial_whyNot c_trial_work c_trial_alikeAct c_trial_alikePair) [.ref (a o), .int l1, .int l2] (some (.int R)) (wX7 E a o c_now_keys c_now_seed c_drawn_keys c_drawn_seed c_pad_signs c_pad_count c_sights_count c_sights_seeds c_img0_kept c_img0_world_keys c_img0_world_seed c_img0_sights_count c_img0_sights_seeds c_img1_kept c_img1_world_keys c_img1_world_seed c_img1_sights_count c_img1_sights_seeds c_trial_act_kind c_trial_act_set c_trial_act_key c_trial_act_other c_trial_tb_left c_trial_tb_right c_trial_tb_parent c_trial_tb_span c_trial_tb_root c_trial_tb_digest c_trial_tb_height c_trial_tb_priority c_trial_tb_pricedBy c_trial_tb_open c_trial_ta_left c_trial_ta_right c_trial_ta_parent c_trial_ta_span c_trial_ta_root c_trial_ta_digest c_trial_ta_height c_trial_ta_priority c_trial_ta_pricedBy c_trial_ta_open c_trial_after_keys c_trial_after_seed c_trial_before_keys c_trial_before_seed c_trial_acts c_trial_whyNot c_trial_work c_trial_alikeAct c_trial_alikePair) := by
  refine Ret.intro (lv := [(0, .ref (a o)), (1, .int l1), (2, .int l2)]) (by decide) (Nat.le_of_ble_eq_true rfl) rfl ?_
  intro g hgl G hQ
  subst hgl
  rw [f_X7_at] at h
  refine w_iload_n (pc2 := 1) G 1 rfl dX7_at_0 rfl rfl ?_
  obtain ⟨x1, H_x1, h⟩ := bs h
  refine w_cS0 (pc2 := 4) (As := [.int l1]) (rest := []) G koX7_73 (r_X7_isSet H_x1) (Nat.le_of_ble_eq_true rfl) rfl rfl (Nat.le_of_ble_eq_true rfl) ⟨Nat.zero_le _, Nat.zero_le _⟩ dX7_at_1 rfl rfl ?_
  refine w_if_eq (tgt := 23) (pc2 := 7) G dX7_at_4 (by decide) rfl (fun cc => ?_) (fun cc => ?_)
  · replace h := (if_pos cc).symm.trans h
    refine w_iconst (pc2 := 24) G dX7_at_23 k_iconst_m1 rfl ?_
    cases h
    exact w_iret G hQ rfl ⟨rfl, rfl⟩ dX7_at_24
  · replace h := (if_neg cc).symm.trans h
    refine w_aload_n (pc2 := 8) G 0 rfl dX7_at_7 rfl rfl ?_
    refine w_get (pc2 := 11) G foX7_10 0 rfl rfl dX7_at_8 rfl ?_
    refine w_get (pc2 := 14) G foX7_79 1 rfl rfl dX7_at_11 rfl ?_
    refine w_iload_n (pc2 := 15) G 1 rfl dX7_at_14 rfl rfl ?_
    obtain ⟨v2, H_v2, h⟩ := bs h
    refine w_laldo (pc2 := 16) G 2 rfl H_v2 dX7_at_15 rfl ?_
    refine w_iload_n (pc2 := 17) G 2 rfl dX7_at_16 rfl rfl ?_
    obtain ⟨x3, H_x3, h⟩ := bs h
    refine w_cS0 (pc2 := 20) (As := [.long v2, .int l2]) (rest := []) G koX7_177 (r_X7_pick H_x3) (Nat.le_of_ble_eq_true rfl) rfl rfl (Nat.le_of_ble_eq_true rfl) ⟨Nat.zero_le _, Nat.zero_le _⟩ dX7_at_17 rfl rfl ?_
    refine w_goto (tgt := 24) G dX7_at_20 (by decide) ?_
    cases h
    exact w_iret G hQ rfl ⟨rfl, rfl⟩ dX7_at_24

set_option maxHeartbeats 4000000 in
set_option maxRecDepth 100000 in
theorem rr_X7_looks {l : Launch} {E : EV} {a : Nat → Nat} {o o1 : Nat} : ∀ (n : Nat) {c_left c_right c_parent : Nat → Int32} {c_span : Nat → Int64} {c_root : Int32} {c_digest c_height c_priority : Nat → Int32} {c_pricedBy : Int32} {c_open c_r1_left c_r1_right c_r1_parent : Nat → Int32} {c_r1_span : Nat → Int64} {c_r1_root : Int32} {c_r1_digest c_r1_height c_r1_priority : Nat → Int32} {c_r1_pricedBy : Int32} {c_r1_open : Nat → Int32} {l2 : Int64} {l4 : Int64} {l6 : Int32} {l7 : Int32} {R : Int32 × (Nat → Int32) × (Nat → Int32) × (Nat → Int32) × (Nat → Int64) × Int32 × (Nat → Int32) × (Nat → Int32) × (Nat → Int32) × Int32 × (Nat → Int32) × (Nat → Int32) × (Nat → Int32) × (Nat → Int32) × (Nat → Int64) × Int32 × (Nat → Int32) × (Nat → Int32) × (Nat → Int32) × Int32 × (Nat → Int32)}, f_X7_looks n c_left c_right c_parent c_span c_root c_digest c_height c_priority c_pricedBy c_open c_r1_left c_r1_right c_r1_parent c_r1_span c_r1_root c_r1_digest c_r1_height c_r1_priority c_r1_pricedBy c_r1_open l2 l4 l6 l7 = some R → Ret1 l E yX7_looks cX7_looks 15 (some .int) (3 + n) ((wX4 E a o c_left c_right c_parent c_span c_root c_digest c_height c_priority c_pricedBy c_open) ++ (wX4 E a o1 c_r1_left c_r1_right c_r1_parent c_r1_span c_r1_root c_r1_digest c_r1_height c_r1_priority c_r1_pricedBy c_r1_open)) [.ref (a o), .ref (a o1), .long l2, .long l4, .int l6, .int l7] (some (.int R.1)) ((wX4 E a o R.2.1 R.2.2.1 R.2.2.2.1 R.2.2.2.2.1 R.2.2.2.2.2.1 R.2.2.2.2.2.2.1 R.2.2.2.2.2.2.2.1 R.2.2.2.2.2.2.2.2.1 R.2.2.2.2.2.2.2.2.2.1 R.2.2.2.2.2.2.2.2.2.2.1) ++ (wX4 E a o1 R.2.2.2.2.2.2.2.2.2.2.2.1 R.2.2.2.2.2.2.2.2.2.2.2.2.1 R.2.2.2.2.2.2.2.2.2.2.2.2.2.1 R.2.2.2.2.2.2.2.2.2.2.2.2.2.2.1 R.2.2.2.2.2.2.2.2.2.2.2.2.2.2.2.1 R.2.2.2.2.2.2.2.2.2.2.2.2.2.2.2.2.1 R.2.2.2.2.2.2.2.2.2.2.2.2.2.2.2.2.2.1 R.2.2.2.2.2.2.2.2.2.2.2.2.2.2.2.2.2.2.1 R.2.2.2.2.2.2.2.2.2.2.2.2.2.2.2.2.2.2.2.1 R.2.2.2.2.2.2.2.2.2.2.2.2.2.2.2.2.2.2.2.2)) := by
  intro n
  induction n with
  | zero =>
    intros
    rename_i h
    exact no_some h
  | succ n ih =>
    intro c_left c_right c_parent c_span c_root c_digest c_height c_priority c_pricedBy c_open c_r1_left c_r1_right c_r1_parent c_r1_span c_r1_root c_r1_digest c_r1_height c_r1_priority c_r1_pricedBy c_r1_open l2 l4 l6 l7 R h
    refine Ret.intro (lv := [(0, .ref (a o)), (1, .ref (a o1)), (2, .long l2), (4, .long l4), (6, .int l6), (7, .int l7)]) (by decide) (Nat.le_of_ble_eq_true rfl) rfl ?_
    intro g hgl G hQ
    subst hgl
    rw [f_X7_looks] at h
    refine w_lload_n (pc2 := 1) G 2 rfl dX7_looks_0 rfl rfl ?_
    refine w_lconst (pc2 := 2) G dX7_looks_1 k_lconst_0 rfl ?_
    refine w_lcmp (pc2 := 3) G dX7_looks_2 rfl ?_
    refine w_if_eq (tgt := 20) (pc2 := 6) G dX7_looks_3 (by decide) rfl (fun cc => ?_) (fun cc => ?_)
    · replace h := (if_pos cc).symm.trans h
      refine w_iconst (pc2 := 21) G dX7_looks_20 k_iconst_1 rfl ?_
      cases h
      exact w_iret G hQ rfl ⟨rfl, rfl⟩ dX7_looks_21
    · replace h := (if_neg cc).symm.trans h
      refine w_lload (pc2 := 8) G 3 rfl dX7_looks_6 rfl ?_
      refine w_lconst (pc2 := 9) G dX7_looks_8 k_lconst_0 rfl ?_
      refine w_lcmp (pc2 := 10) G dX7_looks_9 rfl ?_
      refine w_if_eq (tgt := 20) (pc2 := 13) G dX7_looks_10 (by decide) rfl (fun cc => ?_) (fun cc => ?_)
      · replace h := (if_pos cc).symm.trans h
        refine w_iconst (pc2 := 21) G dX7_looks_20 k_iconst_1 rfl ?_
        cases h
        exact w_iret G hQ rfl ⟨rfl, rfl⟩ dX7_looks_21
      · replace h := (if_neg cc).symm.trans h
        refine w_iload (pc2 := 15) G 5 rfl dX7_looks_13 rfl ?_
        refine w_bipush (pc2 := 17) G dX7_looks_15 k_bipush_50 rfl ?_
        refine w_icmp_le (tgt := 22) (pc2 := 20) G dX7_looks_17 (by decide) rfl (fun cc => ?_) (fun cc => ?_)
        · replace h := (if_pos cc).symm.trans h
          refine w_aload_n (pc2 := 23) G 0 rfl dX7_looks_22 rfl rfl ?_
          refine w_lload_n (pc2 := 24) G 2 rfl dX7_looks_23 rfl rfl ?_
          refine w_iload (pc2 := 26) G 4 rfl dX7_looks_24 rfl ?_
          obtain ⟨x1, H_x1, h⟩ := bs h
          refine w_cV1 (pc2 := 29) (ws2 := ((wX4 E a o x1.1 x1.2.1 x1.2.2.1 x1.2.2.2.1 x1.2.2.2.2.1 x1.2.2.2.2.2.1 x1.2.2.2.2.2.2.1 x1.2.2.2.2.2.2.2.1 x1.2.2.2.2.2.2.2.2.1 x1.2.2.2.2.2.2.2.2.2) ++ (wX4 E a o1 c_r1_left c_r1_right c_r1_parent c_r1_span c_r1_root c_r1_digest c_r1_height c_r1_priority c_r1_pricedBy c_r1_open))) (As := [.long l2, .int l6]) (rest := []) G koX7_124 (r_X4_grow (o := o) H_x1) (by omega) 4 rfl rfl [0, 1, 2, 3, 4, 5, 6, 7, 8] [9, 10, 11, 12, 13, 14, 15, 16, 17] [9, 10, 11, 12, 13, 14, 15, 16, 17, 0, 1, 2, 3, 4, 5, 6, 7, 8] rfl rfl rfl rfl rfl rfl rfl rfl rfl (Nat.le_of_ble_eq_true rfl) ⟨Nat.zero_le _, Nat.zero_le _⟩ dX7_looks_26 rfl rfl ?_
          refine w_aload_n (pc2 := 30) G 1 rfl dX7_looks_29 rfl rfl ?_
          refine w_lload (pc2 := 32) G 3 rfl dX7_looks_30 rfl ?_
          refine w_iload (pc2 := 34) G 4 rfl dX7_looks_32 rfl ?_
          obtain ⟨x2, H_x2, h⟩ := bs h
          refine w_cV1 (pc2 := 37) (ws2 := ((wX4 E a o x1.1 x1.2.1 x1.2.2.1 x1.2.2.2.1 x1.2.2.2.2.1 x1.2.2.2.2.2.1 x1.2.2.2.2.2.2.1 x1.2.2.2.2.2.2.2.1 x1.2.2.2.2.2.2.2.2.1 x1.2.2.2.2.2.2.2.2.2) ++ (wX4 E a o1 x2.1 x2.2.1 x2.2.2.1 x2.2.2.2.1 x2.2.2.2.2.1 x2.2.2.2.2.2.1 x2.2.2.2.2.2.2.1 x2.2.2.2.2.2.2.2.1 x2.2.2.2.2.2.2.2.2.1 x2.2.2.2.2.2.2.2.2.2))) (As := [.long l4, .int l6]) (rest := []) G koX7_124 (r_X4_grow (o := o1) H_x2) (by omega) 4 rfl rfl [9, 10, 11, 12, 13, 14, 15, 16, 17] [0, 1, 2, 3, 4, 5, 6, 7, 8] [0, 1, 2, 3, 4, 5, 6, 7, 8, 9, 10, 11, 12, 13, 14, 15, 16, 17] rfl rfl rfl rfl rfl rfl rfl rfl rfl (Nat.le_of_ble_eq_true rfl) ⟨Nat.zero_le _, Nat.zero_le _⟩ dX7_looks_34 rfl rfl ?_
          refine w_aload_n (pc2 := 38) G 0 rfl dX7_looks_37 rfl rfl ?_
          refine w_get (pc2 := 41) G foX7_130 0 rfl rfl dX7_looks_38 rfl ?_
          refine w_istore (pc2 := 43) (lv2 := [(8, .int x1.2.2.2.2.1), (0, .ref (a o)), (1, .ref (a o1)), (2, .long l2), (4, .long l4), (6, .int l6), (7, .int l7)]) G dX7_looks_41 (Nat.le_of_ble_eq_true rfl) rfl rfl ?_
          refine w_aload_n (pc2 := 44) G 2 rfl dX7_looks_43 rfl rfl ?_
          refine w_get (pc2 := 47) G foX7_130 9 rfl rfl dX7_looks_44 rfl ?_
          refine w_istore (pc2 := 49) (lv2 := [(9, .int x2.2.2.2.2.1), (8, .int x1.2.2.2.2.1), (0, .ref (a o)), (1, .ref (a o1)), (2, .long l2), (4, .long l4), (6, .int l6), (7, .int l7)]) G dX7_looks_47 (Nat.le_of_ble_eq_true rfl) rfl rfl ?_
          refine w_aload_n (pc2 := 50) G 2 rfl dX7_looks_49 rfl rfl ?_
          refine w_iload (pc2 := 52) G 1 rfl dX7_looks_50 rfl ?_
          obtain ⟨x3, H_x3, h⟩ := bs h
          refine w_cV1 (pc2 := 55) (ws2 := ((wX4 E a o x1.1 x1.2.1 x1.2.2.1 x1.2.2.2.1 x1.2.2.2.2.1 x1.2.2.2.2.2.1 x1.2.2.2.2.2.2.1 x1.2.2.2.2.2.2.2.1 x1.2.2.2.2.2.2.2.2.1 x1.2.2.2.2.2.2.2.2.2) ++ (wX4 E a o1 x2.1 x2.2.1 x2.2.2.1 x2.2.2.2.1 x2.2.2.2.2.1 x2.2.2.2.2.2.1 x2.2.2.2.2.2.2.1 x2.2.2.2.2.2.2.2.1 x2.2.2.2.2.2.2.2.2.1 x2.2.2.2.2.2.2.2.2.2))) (As := [.int x1.2.2.2.2.1]) (rest := []) G koX7_137 (r_X4_digestBelow (o := o) H_x3) (by omega) 4 rfl rfl [0, 1, 2, 3, 4, 5, 6, 7, 8] [9, 10, 11, 12, 13, 14, 15, 16, 17] [9, 10, 11, 12, 13, 14, 15, 16, 17, 0, 1, 2, 3, 4, 5, 6, 7, 8] rfl rfl rfl rfl rfl rfl rfl rfl rfl (Nat.le_of_ble_eq_true rfl) ⟨Nat.zero_le _, Nat.zero_le _⟩ dX7_looks_52 rfl rfl ?_
          refine w_aload_n (pc2 := 56) G 3 rfl dX7_looks_55 rfl rfl ?_
          refine w_iload (pc2 := 58) G 0 rfl dX7_looks_56 rfl ?_
          obtain ⟨x4, H_x4, h⟩ := bs h
          refine w_cV1 (pc2 := 61) (ws2 := ((wX4 E a o x1.1 x1.2.1 x1.2.2.1 x1.2.2.2.1 x1.2.2.2.2.1 x1.2.2.2.2.2.1 x1.2.2.2.2.2.2.1 x1.2.2.2.2.2.2.2.1 x1.2.2.2.2.2.2.2.2.1 x1.2.2.2.2.2.2.2.2.2) ++ (wX4 E a o1 x2.1 x2.2.1 x2.2.2.1 x2.2.2.2.1 x2.2.2.2.2.1 x2.2.2.2.2.2.1 x2.2.2.2.2.2.2.1 x2.2.2.2.2.2.2.2.1 x2.2.2.2.2.2.2.2.2.1 x2.2.2.2.2.2.2.2.2.2))) (As := [.int x2.2.2.2.2.1]) (rest := [.int x3]) G koX7_137 (r_X4_digestBelow (o := o1) H_x4) (by omega) 4 rfl rfl [9, 10, 11, 12, 13, 14, 15, 16, 17] [0, 1, 2, 3, 4, 5, 6, 7, 8] [0, 1, 2, 3, 4, 5, 6, 7, 8, 9, 10, 11, 12, 13, 14, 15, 16, 17] rfl rfl rfl rfl rfl rfl rfl rfl rfl (Nat.le_of_ble_eq_true rfl) ⟨Nat.zero_le _, Nat.zero_le _⟩ dX7_looks_58 rfl rfl ?_
          refine w_icmp_ne (tgt := 66) (pc2 := 64) G dX7_looks_61 (by decide) rfl (fun cc => ?_) (fun cc => ?_)
          · replace h := (if_neg cc).symm.trans h
            refine w_iload (pc2 := 68) G 6 rfl dX7_looks_66 rfl ?_
            refine w_iload (pc2 := 70) G 0 rfl dX7_looks_68 rfl ?_
            refine w_iload (pc2 := 72) G 1 rfl dX7_looks_70 rfl ?_
            obtain ⟨x5, H_x5, h⟩ := bs h
            refine w_cS0 (pc2 := 75) (As := [.int l6, .int x2.2.2.2.2.1, .int x1.2.2.2.2.1]) (rest := []) G koX7_189 (r_X7_ranksAbove H_x5) (by omega) rfl rfl (Nat.le_of_ble_eq_true rfl) ⟨Nat.zero_le _, Nat.zero_le _⟩ dX7_looks_72 rfl rfl ?_
            obtain ⟨x6, h0, h⟩ := bs h
            have K_x6 : WW g E 15 0 0 ((wX4 E a o x1.1 x1.2.1 x1.2.2.1 x1.2.2.2.1 x1.2.2.2.2.1 x1.2.2.2.2.2.1 x1.2.2.2.2.2.2.1 x1.2.2.2.2.2.2.2.1 x1.2.2.2.2.2.2.2.2.1 x1.2.2.2.2.2.2.2.2.2) ++ (wX4 E a o1 x2.1 x2.2.1 x2.2.2.1 x2.2.2.2.1 x2.2.2.2.2.1 x2.2.2.2.2.2.1 x2.2.2.2.2.2.2.1 x2.2.2.2.2.2.2.2.1 x2.2.2.2.2.2.2.2.2.1 x2.2.2.2.2.2.2.2.2.2)) [(0, .ref (a o)), (1, .ref (a o1)), (2, .long l2), (4, .long l4), (6, .int l6), (7, .int l7)] 85 [.int x6] := by
              clear h0
              refine w_istore (pc2 := 87) (lv2 := [(10, .int x6), (0, .ref (a o)), (1, .ref (a o1)), (2, .long l2), (4, .long l4), (6, .int l6), (7, .int l7)]) G dX7_looks_85 (Nat.le_of_ble_eq_true rfl) rfl rfl ?_
              refine w_iload (pc2 := 89) G 0 rfl dX7_looks_87 rfl ?_
              obtain ⟨x7, H_x7, h⟩ := bs h
              refine w_cS0 (pc2 := 92) (As := [.int x6]) (rest := []) G koX7_174 (r_X7_less H_x7) (by omega) rfl rfl (Nat.le_of_ble_eq_true rfl) ⟨Nat.zero_le _, Nat.zero_le _⟩ dX7_looks_89 rfl rfl ?_
              refine w_lstore (pc2 := 94) (lv2 := [(11, .long x7), (10, .int x6), (0, .ref (a o)), (1, .ref (a o1)), (2, .long l2), (4, .long l4), (6, .int l6), (7, .int l7)]) G dX7_looks_92 (Nat.le_of_ble_eq_true rfl) rfl rfl ?_
              refine w_lload (pc2 := 96) G 0 rfl dX7_looks_94 rfl ?_
              refine w_iload (pc2 := 98) G 1 rfl dX7_looks_96 rfl ?_
              obtain ⟨x8, H_x8, h⟩ := bs h
              refine w_cS0 (pc2 := 101) (As := [.int x6]) (rest := [.long x7]) G koX7_91 (r_X7_bit H_x8) (by omega) rfl rfl (Nat.le_of_ble_eq_true rfl) ⟨Nat.zero_le _, Nat.zero_le _⟩ dX7_looks_98 rfl rfl ?_
              refine w_lor (pc2 := 102) G dX7_looks_101 rfl ?_
              refine w_ldc2 (pc2 := 105) G wd_108 dX7_looks_102 rfl ?_
              refine w_lxor (pc2 := 106) G dX7_looks_105 rfl ?_
              refine w_lstore (pc2 := 108) (lv2 := [(13, .long ((x7 ||| x8) ^^^ (-1 : Int64))), (11, .long x7), (10, .int x6), (0, .ref (a o)), (1, .ref (a o1)), (2, .long l2), (4, .long l4), (6, .int l6), (7, .int l7)]) G dX7_looks_106 (Nat.le_of_ble_eq_true rfl) rfl rfl ?_
              refine w_iconst (pc2 := 109) G dX7_looks_108 k_iconst_1 rfl ?_
              refine w_aload_n (pc2 := 110) G 3 rfl dX7_looks_109 rfl rfl ?_
              refine w_aload_n (pc2 := 111) G 4 rfl dX7_looks_110 rfl rfl ?_
              refine w_lload_n (pc2 := 112) G 5 rfl dX7_looks_111 rfl rfl ?_
              refine w_lload (pc2 := 114) G 1 rfl dX7_looks_112 rfl ?_
              refine w_land (pc2 := 115) G dX7_looks_114 rfl ?_
              refine w_lload (pc2 := 117) G 6 rfl dX7_looks_115 rfl ?_
              refine w_lload (pc2 := 119) G 1 rfl dX7_looks_117 rfl ?_
              refine w_land (pc2 := 120) G dX7_looks_119 rfl ?_
              refine w_iload (pc2 := 122) G 7 rfl dX7_looks_120 rfl ?_
              refine w_iload (pc2 := 124) G 8 rfl dX7_looks_122 rfl ?_
              refine w_iconst (pc2 := 125) G dX7_looks_124 k_iconst_1 rfl ?_
              refine w_iadd (pc2 := 126) G dX7_looks_125 rfl ?_
              obtain ⟨x9, H_x9, h⟩ := bs h
              refine w_cS1 (pc2 := 129) (ws2 := ((wX4 E a o x9.2.1 x9.2.2.1 x9.2.2.2.1 x9.2.2.2.2.1 x9.2.2.2.2.2.1 x9.2.2.2.2.2.2.1 x9.2.2.2.2.2.2.2.1 x9.2.2.2.2.2.2.2.2.1 x9.2.2.2.2.2.2.2.2.2.1 x9.2.2.2.2.2.2.2.2.2.2.1) ++ (wX4 E a o1 x9.2.2.2.2.2.2.2.2.2.2.2.1 x9.2.2.2.2.2.2.2.2.2.2.2.2.1 x9.2.2.2.2.2.2.2.2.2.2.2.2.2.1 x9.2.2.2.2.2.2.2.2.2.2.2.2.2.2.1 x9.2.2.2.2.2.2.2.2.2.2.2.2.2.2.2.1 x9.2.2.2.2.2.2.2.2.2.2.2.2.2.2.2.2.1 x9.2.2.2.2.2.2.2.2.2.2.2.2.2.2.2.2.2.1 x9.2.2.2.2.2.2.2.2.2.2.2.2.2.2.2.2.2.2.1 x9.2.2.2.2.2.2.2.2.2.2.2.2.2.2.2.2.2.2.2.1 x9.2.2.2.2.2.2.2.2.2.2.2.2.2.2.2.2.2.2.2.2))) (As := [.ref (a o), .ref (a o1), .long (l2 &&& x7), .long (l4 &&& x7), .int l6, .int (l7 + (1 : Int32))]) (rest := [.int (1 : Int32)]) G koX7_181 (ih (H_x9)) (by omega) [0, 1, 2, 3, 4, 5, 6, 7, 8, 9, 10, 11, 12, 13, 14, 15, 16, 17] [] [0, 1, 2, 3, 4, 5, 6, 7, 8, 9, 10, 11, 12, 13, 14, 15, 16, 17] rfl rfl rfl rfl rfl rfl rfl rfl rfl (Nat.le_of_ble_eq_true rfl) ⟨Nat.zero_le _, Nat.zero_le _⟩ dX7_looks_126 rfl rfl ?_
              refine w_iadd (pc2 := 130) G dX7_looks_129 rfl ?_
              refine w_aload_n (pc2 := 131) G 3 rfl dX7_looks_130 rfl rfl ?_
              refine w_aload_n (pc2 := 132) G 4 rfl dX7_looks_131 rfl rfl ?_
              refine w_lload_n (pc2 := 133) G 5 rfl dX7_looks_132 rfl rfl ?_
              refine w_lload (pc2 := 135) G 0 rfl dX7_looks_133 rfl ?_
              refine w_land (pc2 := 136) G dX7_looks_135 rfl ?_
              refine w_lload (pc2 := 138) G 6 rfl dX7_looks_136 rfl ?_
              refine w_lload (pc2 := 140) G 0 rfl dX7_looks_138 rfl ?_
              refine w_land (pc2 := 141) G dX7_looks_140 rfl ?_
              refine w_iload (pc2 := 143) G 7 rfl dX7_looks_141 rfl ?_
              refine w_iload (pc2 := 145) G 8 rfl dX7_looks_143 rfl ?_
              refine w_iconst (pc2 := 146) G dX7_looks_145 k_iconst_1 rfl ?_
              refine w_iadd (pc2 := 147) G dX7_looks_146 rfl ?_
              obtain ⟨x10, H_x10, h⟩ := bs h
              refine w_cS1 (pc2 := 150) (ws2 := ((wX4 E a o x10.2.1 x10.2.2.1 x10.2.2.2.1 x10.2.2.2.2.1 x10.2.2.2.2.2.1 x10.2.2.2.2.2.2.1 x10.2.2.2.2.2.2.2.1 x10.2.2.2.2.2.2.2.2.1 x10.2.2.2.2.2.2.2.2.2.1 x10.2.2.2.2.2.2.2.2.2.2.1) ++ (wX4 E a o1 x10.2.2.2.2.2.2.2.2.2.2.2.1 x10.2.2.2.2.2.2.2.2.2.2.2.2.1 x10.2.2.2.2.2.2.2.2.2.2.2.2.2.1 x10.2.2.2.2.2.2.2.2.2.2.2.2.2.2.1 x10.2.2.2.2.2.2.2.2.2.2.2.2.2.2.2.1 x10.2.2.2.2.2.2.2.2.2.2.2.2.2.2.2.2.1 x10.2.2.2.2.2.2.2.2.2.2.2.2.2.2.2.2.2.1 x10.2.2.2.2.2.2.2.2.2.2.2.2.2.2.2.2.2.2.1 x10.2.2.2.2.2.2.2.2.2.2.2.2.2.2.2.2.2.2.2.1 x10.2.2.2.2.2.2.2.2.2.2.2.2.2.2.2.2.2.2.2.2))) (As := [.ref (a o), .ref (a o1), .long (l2 &&& ((x7 ||| x8) ^^^ (-1 : Int64))), .long (l4 &&& ((x7 ||| x8) ^^^ (-1 : Int64))), .int l6, .int (l7 + (1 : Int32))]) (rest := [.int ((1 : Int32) + x9.1)]) G koX7_181 (ih (H_x10)) (by omega) [0, 1, 2, 3, 4, 5, 6, 7, 8, 9, 10, 11, 12, 13, 14, 15, 16, 17] [] [0, 1, 2, 3, 4, 5, 6, 7, 8, 9, 10, 11, 12, 13, 14, 15, 16, 17] rfl rfl rfl rfl rfl rfl rfl rfl rfl (Nat.le_of_ble_eq_true rfl) ⟨Nat.zero_le _, Nat.zero_le _⟩ dX7_looks_147 rfl rfl ?_
              refine w_iadd (pc2 := 151) G dX7_looks_150 rfl ?_
              cases h
              exact w_iret G hQ rfl ⟨rfl, rfl⟩ dX7_looks_151
            replace h := h0
            clear h0
            refine w_if_eq (tgt := 83) (pc2 := 78) G dX7_looks_75 (by decide) rfl (fun cc => ?_) (fun cc => ?_)
            · replace h := (if_pos cc).symm.trans h
              refine w_iload (pc2 := 85) G 1 rfl dX7_looks_83 rfl ?_
              cases h
              exact w_lv [2, 3, 4, 5, 6, 7] rfl K_x6
            · replace h := (if_neg cc).symm.trans h
              refine w_iload (pc2 := 80) G 0 rfl dX7_looks_78 rfl ?_
              refine w_goto (tgt := 85) G dX7_looks_80 (by decide) ?_
              cases h
              exact w_lv [2, 3, 4, 5, 6, 7] rfl K_x6
          · replace h := (if_pos cc).symm.trans h
            refine w_iconst (pc2 := 65) G dX7_looks_64 k_iconst_1 rfl ?_
            cases h
            exact w_iret G hQ rfl ⟨rfl, rfl⟩ dX7_looks_65
        · replace h := (if_neg cc).symm.trans h
          refine w_iconst (pc2 := 21) G dX7_looks_20 k_iconst_1 rfl ?_
          cases h
          exact w_iret G hQ rfl ⟨rfl, rfl⟩ dX7_looks_21
theorem r_X7_looks {l : Launch} {E : EV} {a : Nat → Nat} {o o1 : Nat} {c_left c_right c_parent : Nat → Int32} {c_span : Nat → Int64} {c_root : Int32} {c_digest c_height c_priority : Nat → Int32} {c_pricedBy : Int32} {c_open c_r1_left c_r1_right c_r1_parent : Nat → Int32} {c_r1_span : Nat → Int64} {c_r1_root : Int32} {c_r1_digest c_r1_height c_r1_priority : Nat → Int32} {c_r1_pricedBy : Int32} {c_r1_open : Nat → Int32} {l2 : Int64} {l4 : Int64} {l6 : Int32} {l7 : Int32} {R : Int32 × (Nat → Int32) × (Nat → Int32) × (Nat → Int32) × (Nat → Int64) × Int32 × (Nat → Int32) × (Nat → Int32) × (Nat → Int32) × Int32 × (Nat → Int32) × (Nat → Int32) × (Nat → Int32) × (Nat → Int32) × (Nat → Int64) × Int32 × (Nat → Int32) × (Nat → Int32) × (Nat → Int32) × Int32 × (Nat → Int32)} (h : f_X7_looks 60 c_left c_right c_parent c_span c_root c_digest c_height c_priority c_pricedBy c_open c_r1_left c_r1_right c_r1_parent c_r1_span c_r1_root c_r1_digest c_r1_height c_r1_priority c_r1_pricedBy c_r1_open l2 l4 l6 l7 = some R) : Ret1 l E yX7_looks cX7_looks 15 (some .int) (3 + 60) ((wX4 E a o c_left c_right c_parent c_span c_root c_digest c_height c_priority c_pricedBy c_open) ++ (wX4 E a o1 c_r1_left c_r1_right c_r1_parent c_r1_span c_r1_root c_r1_digest c_r1_height c_r1_priority c_r1_pricedBy c_r1_open)) [.ref (a o), .ref (a o1), .long l2, .long l4, .int l6, .int l7] (some (.int R.1)) ((wX4 E a o R.2.1 R.2.2.1 R.2.2.2.1 R.2.2.2.2.1 R.2.2.2.2.2.1 R.2.2.2.2.2.2.1 R.2.2.2.2.2.2.2.1 R.2.2.2.2.2.2.2.2.1 R.2.2.2.2.2.2.2.2.2.1 R.2.2.2.2.2.2.2.2.2.2.1) ++ (wX4 E a o1 R.2.2.2.2.2.2.2.2.2.2.2.1 R.2.2.2.2.2.2.2.2.2.2.2.2.1 R.2.2.2.2.2.2.2.2.2.2.2.2.2.1 R.2.2.2.2.2.2.2.2.2.2.2.2.2.2.1 R.2.2.2.2.2.2.2.2.2.2.2.2.2.2.2.1 R.2.2.2.2.2.2.2.2.2.2.2.2.2.2.2.2.1 R.2.2.2.2.2.2.2.2.2.2.2.2.2.2.2.2.2.1 R.2.2.2.2.2.2.2.2.2.2.2.2.2.2.2.2.2.2.1 R.2.2.2.2.2.2.2.2.2.2.2.2.2.2.2.2.2.2.2.1 R.2.2.2.2.2.2.2.2.2.2.2.2.2.2.2.2.2.2.2.2)) := rr_X7_looks 60 h

set_option maxHeartbeats 4000000 in
set_option maxRecDepth 100000 in
theorem lp_X7_shared_36 {g : CX} {E : EV} {a : Nat → Nat} {o : Nat} {c_now_keys : Nat → Int64} {c_now_seed : Int32} {c_drawn_keys : Nat → Int64} {c_drawn_seed : Int32} {c_pad_signs : Nat → Int32} {c_pad_count c_sights_count : Int32} {c_sights_seeds : Nat → Int64} {c_img0_kept : Int32} {c_img0_world_keys : Nat → Int64} {c_img0_world_seed c_img0_sights_count : Int32} {c_img0_sights_seeds : Nat → Int64} {c_img1_kept : Int32} {c_img1_world_keys : Nat → Int64} {c_img1_world_seed c_img1_sights_count : Int32} {c_img1_sights_seeds : Nat → Int64} {c_trial_act_kind c_trial_act_set c_trial_act_key c_trial_act_other : Int32} {c_trial_tb_left c_trial_tb_right c_trial_tb_parent : Nat → Int32} {c_trial_tb_root : Int32} {c_trial_tb_digest c_trial_tb_height c_trial_tb_priority : Nat → Int32} {c_trial_tb_pricedBy : Int32} {c_trial_tb_open c_trial_ta_left c_trial_ta_right c_trial_ta_parent : Nat → Int32} {c_trial_ta_root : Int32} {c_trial_ta_digest c_trial_ta_height c_trial_ta_priority : Nat → Int32} {c_trial_ta_pricedBy : Int32} {c_trial_ta_open : Nat → Int32} {c_trial_after_keys : Nat → Int64} {c_trial_after_seed : Int32} {c_trial_before_keys : Nat → Int64} {c_trial_before_seed c_trial_acts c_trial_whyNot c_trial_work c_trial_alikeAct c_trial_alikePair : Int32}  (G : GG g E RX7 cX7_shared 7 (some .int) 3 0 0) : ∀ (n : Nat) (c_trial_tb_span : Nat → Int64) (c_trial_ta_span : Nat → Int64) (l1 : Int64) (l3 : Int64) (l5 : Int32) (l6 : Int32) (R : Int32), L_X7_shared_36 n c_trial_tb_span c_trial_ta_span l1 l3 l5 l6 = some R → WW g E 7 0 0 (wX7 E a o c_now_keys c_now_seed c_drawn_keys c_drawn_seed c_pad_signs c_pad_count c_sights_count c_sights_seeds c_img0_kept c_img0_world_keys c_img0_world_seed c_img0_sights_count c_img0_sights_seeds c_img1_kept c_img1_world_keys c_img1_world_seed c_img1_sights_count c_img1_sights_seeds c_trial_act_kind c_trial_act_set c_trial_act_key c_trial_act_other c_trial_tb_left c_trial_tb_right c_trial_tb_parent c_trial_tb_span c_trial_tb_root c_trial_tb_digest c_trial_tb_height c_trial_tb_priority c_trial_tb_pricedBy c_trial_tb_open c_trial_ta_left c_trial_ta_right c_trial_ta_parent c_trial_ta_span c_trial_ta_root c_trial_ta_digest c_trial_ta_height c_trial_ta_priority c_trial_ta_pricedBy c_trial_ta_open c_trial_after_keys c_trial_after_seed c_trial_before_keys c_trial_before_seed c_trial_acts c_trial_whyNot c_trial_work c_trial_alikeAct c_trial_alikePair) [(5, .int R)] 87 [] → WW g E 7 0 0 (wX7 E a o c_now_keys c_now_seed c_drawn_keys c_drawn_seed c_pad_signs c_pad_count c_sights_count c_sights_seeds c_img0_kept c_img0_world_keys c_img0_world_seed c_img0_sights_count c_img0_sights_seeds c_img1_kept c_img1_world_keys c_img1_world_seed c_img1_sights_count c_img1_sights_seeds c_trial_act_kind c_trial_act_set c_trial_act_key c_trial_act_other c_trial_tb_left c_trial_tb_right c_trial_tb_parent c_trial_tb_span c_trial_tb_root c_trial_tb_digest c_trial_tb_height c_trial_tb_priority c_trial_tb_pricedBy c_trial_tb_open c_trial_ta_left c_trial_ta_right c_trial_ta_parent c_trial_ta_span c_trial_ta_root c_trial_ta_digest c_trial_ta_height c_trial_ta_priority c_trial_ta_pricedBy c_trial_ta_open c_trial_after_keys c_trial_after_seed c_trial_before_keys c_trial_before_seed c_trial_acts c_trial_whyNot c_trial_work c_trial_alikeAct c_trial_alikePair) [(0, .ref (a o)), (1, .long l1), (3, .long l3), (5, .int l5), (6, .int l6)] 36 [] := by
  intro n
  induction n with
  | zero => intro c_trial_tb_span c_trial_ta_span l1 l3 l5 l6 R h; exact no_some h
  | succ n ih =>
    intro c_trial_tb_span c_trial_ta_span l1 l3 l5 l6 R h K
    rw [L_X7_shared_36] at h
    refine w_iload (pc2 := 38) G 4 rfl dX7_shared_36 rfl ?_
    refine w_bipush (pc2 := 40) G dX7_shared_38 k_bipush_50 rfl ?_
    refine w_icmp_ge (tgt := 87) (pc2 := 43) G dX7_shared_40 (by decide) rfl (fun cc => ?_) (fun cc => ?_)
    · replace h := (if_pos cc).symm.trans h
      cases h
      exact w_lv [3] rfl K
    · replace h := (if_neg cc).symm.trans h
      refine w_lload_n (pc2 := 44) G 1 rfl dX7_shared_43 rfl rfl ?_
      refine w_lload_n (pc2 := 45) G 2 rfl dX7_shared_44 rfl rfl ?_
      refine w_land (pc2 := 46) G dX7_shared_45 rfl ?_
      refine w_iload (pc2 := 48) G 4 rfl dX7_shared_46 rfl ?_
      obtain ⟨x1, H_x1, h⟩ := bs h
      refine w_cS0 (pc2 := 51) (As := [.long (l1 &&& l3), .int l6]) (rest := []) G koX7_83 (r_X7_isIn H_x1) (Nat.le_of_ble_eq_true rfl) rfl rfl (Nat.le_of_ble_eq_true rfl) ⟨Nat.zero_le _, Nat.zero_le _⟩ dX7_shared_48 rfl rfl ?_
      refine w_if_eq (tgt := 81) (pc2 := 54) G dX7_shared_51 (by decide) rfl (fun cc => ?_) (fun cc => ?_)
      · replace h := (if_pos cc).symm.trans h
        refine w_iinc (pc2 := 84) (lv2 := [(6, .int (l6 + (1 : Int32))), (0, .ref (a o)), (1, .long l1), (3, .long l3), (5, .int l5)]) G 4 rfl dX7_shared_81 k_iconst_1 (Nat.le_of_ble_eq_true rfl) rfl rfl ?_
        refine w_goto (tgt := 36) G dX7_shared_84 (by decide) ?_
        exact w_lv [1, 2, 3, 4, 0] rfl (ih _ _ _ _ _ _ _ h K)
      · replace h := (if_neg cc).symm.trans h
        refine w_aload_n (pc2 := 55) G 0 rfl dX7_shared_54 rfl rfl ?_
        refine w_get (pc2 := 58) G foX7_55 0 rfl rfl dX7_shared_55 rfl ?_
        refine w_get (pc2 := 61) G foX7_193 22 rfl rfl dX7_shared_58 rfl ?_
        refine w_iload (pc2 := 63) G 4 rfl dX7_shared_61 rfl ?_
        obtain ⟨v2, H_v2, h⟩ := bs h
        refine w_laldo (pc2 := 64) G 26 rfl H_v2 dX7_shared_63 rfl ?_
        refine w_aload_n (pc2 := 65) G 0 rfl dX7_shared_64 rfl rfl ?_
        refine w_get (pc2 := 68) G foX7_61 0 rfl rfl dX7_shared_65 rfl ?_
        refine w_get (pc2 := 71) G foX7_193 31 rfl rfl dX7_shared_68 rfl ?_
        refine w_iload (pc2 := 73) G 4 rfl dX7_shared_71 rfl ?_
        obtain ⟨v3, H_v3, h⟩ := bs h
        refine w_laldo (pc2 := 74) G 35 rfl H_v3 dX7_shared_73 rfl ?_
        refine w_lcmp (pc2 := 75) G dX7_shared_74 rfl ?_
        refine w_if_ne (tgt := 81) (pc2 := 78) G dX7_shared_75 (by decide) rfl (fun cc => ?_) (fun cc => ?_)
        · replace h := (if_neg cc).symm.trans h
          refine w_iinc (pc2 := 84) (lv2 := [(6, .int (l6 + (1 : Int32))), (0, .ref (a o)), (1, .long l1), (3, .long l3), (5, .int l5)]) G 4 rfl dX7_shared_81 k_iconst_1 (Nat.le_of_ble_eq_true rfl) rfl rfl ?_
          refine w_goto (tgt := 36) G dX7_shared_84 (by decide) ?_
          exact w_lv [1, 2, 3, 4, 0] rfl (ih _ _ _ _ _ _ _ h K)
        · replace h := (if_pos cc).symm.trans h
          refine w_iinc (pc2 := 81) (lv2 := [(5, .int (l5 + (1 : Int32))), (0, .ref (a o)), (1, .long l1), (3, .long l3), (6, .int l6)]) G 3 rfl dX7_shared_78 k_iconst_1 (Nat.le_of_ble_eq_true rfl) rfl rfl ?_
          refine w_iinc (pc2 := 84) (lv2 := [(6, .int (l6 + (1 : Int32))), (5, .int (l5 + (1 : Int32))), (0, .ref (a o)), (1, .long l1), (3, .long l3)]) G 4 rfl dX7_shared_81 k_iconst_1 (Nat.le_of_ble_eq_true rfl) rfl rfl ?_
          refine w_goto (tgt := 36) G dX7_shared_84 (by decide) ?_
          exact w_lv [2, 3, 4, 1, 0] rfl (ih _ _ _ _ _ _ _ h K)
set_option maxHeartbeats 4000000 in
set_option maxRecDepth 100000 in
theorem r_X7_shared {l : Launch} {E : EV} {a : Nat → Nat} {o : Nat} {c_now_keys : Nat → Int64} {c_now_seed : Int32} {c_drawn_keys : Nat → Int64} {c_drawn_seed : Int32} {c_pad_signs : Nat → Int32} {c_pad_count c_sights_count : Int32} {c_sights_seeds : Nat → Int64} {c_img0_kept : Int32} {c_img0_world_keys : Nat → Int64} {c_img0_world_seed c_img0_sights_count : Int32} {c_img0_sights_seeds : Nat → Int64} {c_img1_kept : Int32} {c_img1_world_keys : Nat → Int64} {c_img1_world_seed c_img1_sights_count : Int32} {c_img1_sights_seeds : Nat → Int64} {c_trial_act_kind c_trial_act_set c_trial_act_key c_trial_act_other : Int32} {c_trial_tb_left c_trial_tb_right c_trial_tb_parent : Nat → Int32} {c_trial_tb_span : Nat → Int64} {c_trial_tb_root : Int32} {c_trial_tb_digest c_trial_tb_height c_trial_tb_priority : Nat → Int32} {c_trial_tb_pricedBy : Int32} {c_trial_tb_open c_trial_ta_left c_trial_ta_right c_trial_ta_parent : Nat → Int32} {c_trial_ta_span : Nat → Int64} {c_trial_ta_root : Int32} {c_trial_ta_digest c_trial_ta_height c_trial_ta_priority : Nat → Int32} {c_trial_ta_pricedBy : Int32} {c_trial_ta_open : Nat → Int32} {c_trial_after_keys : Nat → Int64} {c_trial_after_seed : Int32} {c_trial_before_keys : Nat → Int64} {c_trial_before_seed c_trial_acts c_trial_whyNot c_trial_work c_trial_alikeAct c_trial_alikePair : Int32} {l1 : Int64} {l3 : Int64} {R : Int32 × (Nat → Int32) × (Nat → Int32) × (Nat → Int32) × (Nat → Int64) × Int32 × (Nat → Int32) × (Nat → Int32) × (Nat → Int32) × Int32 × (Nat → Int32) × (Nat → Int32) × (Nat → Int32) × (Nat → Int32) × (Nat → Int64) × Int32 × (Nat → Int32) × (Nat → Int32) × (Nat → Int32) × Int32 × (Nat → Int32)} (h : f_X7_shared c_now_seed c_trial_tb_left c_trial_tb_right c_trial_tb_parent c_trial_tb_span c_trial_tb_root c_trial_tb_digest c_trial_tb_height c_trial_tb_priority c_trial_tb_pricedBy c_trial_tb_open c_trial_ta_left c_trial_ta_right c_trial_ta_parent c_trial_ta_span c_trial_ta_root c_trial_ta_digest c_trial_ta_height c_trial_ta_priority c_trial_ta_pricedBy c_trial_ta_open l1 l3 = some R) : Ret1 l E yX7_shared cX7_shared 7 (some .int) 3 (wX7 E a o c_now_keys c_now_seed c_drawn_keys c_drawn_seed c_pad_signs c_pad_count c_sights_count c_sights_seeds c_img0_kept c_img0_world_keys c_img0_world_seed c_img0_sights_count c_img0_sights_seeds c_img1_kept c_img1_world_keys c_img1_world_seed c_img1_sights_count c_img1_sights_seeds c_trial_act_kind c_trial_act_set c_trial_act_key c_trial_act_other c_trial_tb_left c_trial_tb_right c_trial_tb_parent c_trial_tb_span c_trial_tb_root c_trial_tb_digest c_trial_tb_height c_trial_tb_priority c_trial_tb_pricedBy c_trial_tb_open c_trial_ta_left c_trial_ta_right c_trial_ta_parent c_trial_ta_span c_trial_ta_root c_trial_ta_digest c_trial_ta_height c_trial_ta_priority c_trial_ta_pricedBy c_trial_ta_open c_trial_after_keys c_trial_after_seed c_trial_before_keys c_trial_before_seed c_trial_acts c_trial_whyNot c_trial_work c_trial_alikeAct c_trial_alikePair) [.ref (a o), .long l1, .long l3] (some (.int R.1)) (wX7 E a o c_now_keys c_now_seed c_drawn_keys c_drawn_seed c_pad_signs c_pad_count c_sights_count c_sights_seeds c_img0_kept c_img0_world_keys c_img0_world_seed c_img0_sights_count c_img0_sights_seeds c_img1_kept c_img1_world_keys c_img1_world_seed c_img1_sights_count c_img1_sights_seeds c_trial_act_kind c_trial_act_set c_trial_act_key c_trial_act_other R.2.1 R.2.2.1 R.2.2.2.1 R.2.2.2.2.1 R.2.2.2.2.2.1 R.2.2.2.2.2.2.1 R.2.2.2.2.2.2.2.1 R.2.2.2.2.2.2.2.2.1 R.2.2.2.2.2.2.2.2.2.1 R.2.2.2.2.2.2.2.2.2.2.1 R.2.2.2.2.2.2.2.2.2.2.2.1 R.2.2.2.2.2.2.2.2.2.2.2.2.1 R.2.2.2.2.2.2.2.2.2.2.2.2.2.1 R.2.2.2.2.2.2.2.2.2.2.2.2.2.2.1 R.2.2.2.2.2.2.2.2.2.2.2.2.2.2.2.1 R.2.2.2.2.2.2.2.2.2.2.2.2.2.2.2.2.1 R.2.2.2.2.2.2.2.2.2.2.2.2.2.2.2.2.2.1 R.2.2.2.2.2.2.2.2.2.2.2.2.2.2.2.2.2.2.1 R.2.2.2.2.2.2.2.2.2.2.2.2.2.2.2.2.2.2.2.1 R.2.2.2.2.2.2.2.2.2.2.2.2.2.2.2.2.2.2.2.2 c_trial_after_keys c_trial_after_seed c_trial_before_keys c_trial_before_seed c_trial_acts c_trial_whyNot c_trial_work c_trial_alikeAct c_trial_alikePair) := by
  refine Ret.intro (lv := [(0, .ref (a o)), (1, .long l1), (3, .long l3)]) (by decide) (Nat.le_of_ble_eq_true rfl) rfl ?_
  intro g hgl G hQ
  subst hgl
  rw [f_X7_shared] at h
  refine w_aload_n (pc2 := 1) G 0 rfl dX7_shared_0 rfl rfl ?_
  refine w_get (pc2 := 4) G foX7_55 0 rfl rfl dX7_shared_1 rfl ?_
  refine w_lload_n (pc2 := 5) G 1 rfl dX7_shared_4 rfl rfl ?_
  refine w_aload_n (pc2 := 6) G 0 rfl dX7_shared_5 rfl rfl ?_
  refine w_get (pc2 := 9) G foX7_10 0 rfl rfl dX7_shared_6 rfl ?_
  refine w_get (pc2 := 12) G foX7_69 1 rfl rfl dX7_shared_9 rfl ?_
  obtain ⟨x1, H_x1, h⟩ := bs h
  refine w_cV1 (pc2 := 15) (ws2 := (wX7 E a o c_now_keys c_now_seed c_drawn_keys c_drawn_seed c_pad_signs c_pad_count c_sights_count c_sights_seeds c_img0_kept c_img0_world_keys c_img0_world_seed c_img0_sights_count c_img0_sights_seeds c_img1_kept c_img1_world_keys c_img1_world_seed c_img1_sights_count c_img1_sights_seeds c_trial_act_kind c_trial_act_set c_trial_act_key c_trial_act_other x1.1 x1.2.1 x1.2.2.1 x1.2.2.2.1 x1.2.2.2.2.1 x1.2.2.2.2.2.1 x1.2.2.2.2.2.2.1 x1.2.2.2.2.2.2.2.1 x1.2.2.2.2.2.2.2.2.1 x1.2.2.2.2.2.2.2.2.2 c_trial_ta_left c_trial_ta_right c_trial_ta_parent c_trial_ta_span c_trial_ta_root c_trial_ta_digest c_trial_ta_height c_trial_ta_priority c_trial_ta_pricedBy c_trial_ta_open c_trial_after_keys c_trial_after_seed c_trial_before_keys c_trial_before_seed c_trial_acts c_trial_whyNot c_trial_work c_trial_alikeAct c_trial_alikePair)) (As := [.long l1, .int c_now_seed]) (rest := []) G koX7_124 (r_X4_grow (o := (o + 22)) H_x1) (Nat.le_of_ble_eq_true rfl) 4 rfl rfl [22, 23, 24, 25, 26, 27, 28, 29, 30] [0, 1, 2, 3, 4, 5, 6, 7, 8, 9, 10, 11, 12, 13, 14, 15, 16, 17, 18, 19, 20, 21, 31, 32, 33, 34, 35, 36, 37, 38, 39, 40, 41, 42, 43] [0, 1, 2, 3, 4, 5, 6, 7, 8, 9, 10, 11, 12, 13, 14, 15, 16, 17, 18, 19, 20, 21, 35, 36, 37, 38, 39, 40, 41, 42, 43, 22, 23, 24, 25, 26, 27, 28, 29, 30, 31, 32, 33, 34] rfl rfl rfl rfl rfl rfl rfl rfl rfl (Nat.le_of_ble_eq_true rfl) ⟨Nat.zero_le _, Nat.zero_le _⟩ dX7_shared_12 rfl rfl ?_
  refine w_aload_n (pc2 := 16) G 0 rfl dX7_shared_15 rfl rfl ?_
  refine w_get (pc2 := 19) G foX7_61 0 rfl rfl dX7_shared_16 rfl ?_
  refine w_lload_n (pc2 := 20) G 2 rfl dX7_shared_19 rfl rfl ?_
  refine w_aload_n (pc2 := 21) G 0 rfl dX7_shared_20 rfl rfl ?_
  refine w_get (pc2 := 24) G foX7_10 0 rfl rfl dX7_shared_21 rfl ?_
  refine w_get (pc2 := 27) G foX7_69 1 rfl rfl dX7_shared_24 rfl ?_
  obtain ⟨x2, H_x2, h⟩ := bs h
  refine w_cV1 (pc2 := 30) (ws2 := (wX7 E a o c_now_keys c_now_seed c_drawn_keys c_drawn_seed c_pad_signs c_pad_count c_sights_count c_sights_seeds c_img0_kept c_img0_world_keys c_img0_world_seed c_img0_sights_count c_img0_sights_seeds c_img1_kept c_img1_world_keys c_img1_world_seed c_img1_sights_count c_img1_sights_seeds c_trial_act_kind c_trial_act_set c_trial_act_key c_trial_act_other x1.1 x1.2.1 x1.2.2.1 x1.2.2.2.1 x1.2.2.2.2.1 x1.2.2.2.2.2.1 x1.2.2.2.2.2.2.1 x1.2.2.2.2.2.2.2.1 x1.2.2.2.2.2.2.2.2.1 x1.2.2.2.2.2.2.2.2.2 x2.1 x2.2.1 x2.2.2.1 x2.2.2.2.1 x2.2.2.2.2.1 x2.2.2.2.2.2.1 x2.2.2.2.2.2.2.1 x2.2.2.2.2.2.2.2.1 x2.2.2.2.2.2.2.2.2.1 x2.2.2.2.2.2.2.2.2.2 c_trial_after_keys c_trial_after_seed c_trial_before_keys c_trial_before_seed c_trial_acts c_trial_whyNot c_trial_work c_trial_alikeAct c_trial_alikePair)) (As := [.long l3, .int c_now_seed]) (rest := []) G koX7_124 (r_X4_grow (o := (o + 31)) H_x2) (Nat.le_of_ble_eq_true rfl) 4 rfl rfl [31, 32, 33, 34, 35, 36, 37, 38, 39] [0, 1, 2, 3, 4, 5, 6, 7, 8, 9, 10, 11, 12, 13, 14, 15, 16, 17, 18, 19, 20, 21, 22, 23, 24, 25, 26, 27, 28, 29, 30, 40, 41, 42, 43] [0, 1, 2, 3, 4, 5, 6, 7, 8, 9, 10, 11, 12, 13, 14, 15, 16, 17, 18, 19, 20, 21, 22, 23, 24, 25, 26, 27, 28, 29, 30, 35, 36, 37, 38, 39, 40, 41, 42, 43, 31, 32, 33, 34] rfl rfl rfl rfl rfl rfl rfl rfl rfl (Nat.le_of_ble_eq_true rfl) ⟨Nat.zero_le _, Nat.zero_le _⟩ dX7_shared_27 rfl rfl ?_
  refine w_iconst (pc2 := 31) G dX7_shared_30 k_iconst_0 rfl ?_
  refine w_istore (pc2 := 33) (lv2 := [(5, .int (0 : Int32)), (0, .ref (a o)), (1, .long l1), (3, .long l3)]) G dX7_shared_31 (Nat.le_of_ble_eq_true rfl) rfl rfl ?_
  refine w_iconst (pc2 := 34) G dX7_shared_33 k_iconst_0 rfl ?_
  refine w_istore (pc2 := 36) (lv2 := [(6, .int (0 : Int32)), (5, .int (0 : Int32)), (0, .ref (a o)), (1, .long l1), (3, .long l3)]) G dX7_shared_34 (Nat.le_of_ble_eq_true rfl) rfl rfl ?_
  obtain ⟨x3, h0, h⟩ := bs h
  have K_x3 : WW g E 7 0 0 (wX7 E a o c_now_keys c_now_seed c_drawn_keys c_drawn_seed c_pad_signs c_pad_count c_sights_count c_sights_seeds c_img0_kept c_img0_world_keys c_img0_world_seed c_img0_sights_count c_img0_sights_seeds c_img1_kept c_img1_world_keys c_img1_world_seed c_img1_sights_count c_img1_sights_seeds c_trial_act_kind c_trial_act_set c_trial_act_key c_trial_act_other x1.1 x1.2.1 x1.2.2.1 x1.2.2.2.1 x1.2.2.2.2.1 x1.2.2.2.2.2.1 x1.2.2.2.2.2.2.1 x1.2.2.2.2.2.2.2.1 x1.2.2.2.2.2.2.2.2.1 x1.2.2.2.2.2.2.2.2.2 x2.1 x2.2.1 x2.2.2.1 x2.2.2.2.1 x2.2.2.2.2.1 x2.2.2.2.2.2.1 x2.2.2.2.2.2.2.1 x2.2.2.2.2.2.2.2.1 x2.2.2.2.2.2.2.2.2.1 x2.2.2.2.2.2.2.2.2.2 c_trial_after_keys c_trial_after_seed c_trial_before_keys c_trial_before_seed c_trial_acts c_trial_whyNot c_trial_work c_trial_alikeAct c_trial_alikePair) [(5, .int x3)] 87 [] := by
    clear h0
    refine w_iload (pc2 := 89) G 0 rfl dX7_shared_87 rfl ?_
    cases h
    exact w_iret G hQ rfl ⟨rfl, rfl⟩ dX7_shared_89
  exact w_lv [2, 3, 4, 1, 0] rfl (lp_X7_shared_36 G 20000 _ _ _ _ _ _ _ h0 (w_lv [0] rfl K_x3))

set_option maxHeartbeats 4000000 in
set_option maxRecDepth 100000 in
theorem r_X7_apart {l : Launch} {E : EV} {a : Nat → Nat} {o : Nat} {c_now_keys : Nat → Int64} {c_now_seed : Int32} {c_drawn_keys : Nat → Int64} {c_drawn_seed : Int32} {c_pad_signs : Nat → Int32} {c_pad_count c_sights_count : Int32} {c_sights_seeds : Nat → Int64} {c_img0_kept : Int32} {c_img0_world_keys : Nat → Int64} {c_img0_world_seed c_img0_sights_count : Int32} {c_img0_sights_seeds : Nat → Int64} {c_img1_kept : Int32} {c_img1_world_keys : Nat → Int64} {c_img1_world_seed c_img1_sights_count : Int32} {c_img1_sights_seeds : Nat → Int64} {c_trial_act_kind c_trial_act_set c_trial_act_key c_trial_act_other : Int32} {c_trial_tb_left c_trial_tb_right c_trial_tb_parent : Nat → Int32} {c_trial_tb_span : Nat → Int64} {c_trial_tb_root : Int32} {c_trial_tb_digest c_trial_tb_height c_trial_tb_priority : Nat → Int32} {c_trial_tb_pricedBy : Int32} {c_trial_tb_open c_trial_ta_left c_trial_ta_right c_trial_ta_parent : Nat → Int32} {c_trial_ta_span : Nat → Int64} {c_trial_ta_root : Int32} {c_trial_ta_digest c_trial_ta_height c_trial_ta_priority : Nat → Int32} {c_trial_ta_pricedBy : Int32} {c_trial_ta_open : Nat → Int32} {c_trial_after_keys : Nat → Int64} {c_trial_after_seed : Int32} {c_trial_before_keys : Nat → Int64} {c_trial_before_seed c_trial_acts c_trial_whyNot c_trial_work c_trial_alikeAct c_trial_alikePair : Int32} {l1 : Int32} {l2 : Int32} {l3 : Int32} {R : Int32 × (Nat → Int32) × (Nat → Int32) × (Nat → Int32) × (Nat → Int64) × Int32 × (Nat → Int32) × (Nat → Int32) × (Nat → Int32) × Int32 × (Nat → Int32) × (Nat → Int32) × (Nat → Int32) × (Nat → Int32) × (Nat → Int64) × Int32 × (Nat → Int32) × (Nat → Int32) × (Nat → Int32) × Int32 × (Nat → Int32)} (h : f_X7_apart c_now_keys c_now_seed c_trial_tb_left c_trial_tb_right c_trial_tb_parent c_trial_tb_span c_trial_tb_root c_trial_tb_digest c_trial_tb_height c_trial_tb_priority c_trial_tb_pricedBy c_trial_tb_open c_trial_ta_left c_trial_ta_right c_trial_ta_parent c_trial_ta_span c_trial_ta_root c_trial_ta_digest c_trial_ta_height c_trial_ta_priority c_trial_ta_pricedBy c_trial_ta_open l1 l2 l3 = some R) : Ret1 l E yX7_apart cX7_apart 8 (some .int) 64 (wX7 E a o c_now_keys c_now_seed c_drawn_keys c_drawn_seed c_pad_signs c_pad_count c_sights_count c_sights_seeds c_img0_kept c_img0_world_keys c_img0_world_seed c_img0_sights_count c_img0_sights_seeds c_img1_kept c_img1_world_keys c_img1_world_seed c_img1_sights_count c_img1_sights_seeds c_trial_act_kind c_trial_act_set c_trial_act_key c_trial_act_other c_trial_tb_left c_trial_tb_right c_trial_tb_parent c_trial_tb_span c_trial_tb_root c_trial_tb_digest c_trial_tb_height c_trial_tb_priority c_trial_tb_pricedBy c_trial_tb_open c_trial_ta_left c_trial_ta_right c_trial_ta_parent c_trial_ta_span c_trial_ta_root c_trial_ta_digest c_trial_ta_height c_trial_ta_priority c_trial_ta_pricedBy c_trial_ta_open c_trial_after_keys c_trial_after_seed c_trial_before_keys c_trial_before_seed c_trial_acts c_trial_whyNot c_trial_work c_trial_alikeAct c_trial_alikePair) [.ref (a o), .int l1, .int l2, .int l3] (some (.int R.1)) (wX7 E a o c_now_keys c_now_seed c_drawn_keys c_drawn_seed c_pad_signs c_pad_count c_sights_count c_sights_seeds c_img0_kept c_img0_world_keys c_img0_world_seed c_img0_sights_count c_img0_sights_seeds c_img1_kept c_img1_world_keys c_img1_world_seed c_img1_sights_count c_img1_sights_seeds c_trial_act_kind c_trial_act_set c_trial_act_key c_trial_act_other R.2.1 R.2.2.1 R.2.2.2.1 R.2.2.2.2.1 R.2.2.2.2.2.1 R.2.2.2.2.2.2.1 R.2.2.2.2.2.2.2.1 R.2.2.2.2.2.2.2.2.1 R.2.2.2.2.2.2.2.2.2.1 R.2.2.2.2.2.2.2.2.2.2.1 R.2.2.2.2.2.2.2.2.2.2.2.1 R.2.2.2.2.2.2.2.2.2.2.2.2.1 R.2.2.2.2.2.2.2.2.2.2.2.2.2.1 R.2.2.2.2.2.2.2.2.2.2.2.2.2.2.1 R.2.2.2.2.2.2.2.2.2.2.2.2.2.2.2.1 R.2.2.2.2.2.2.2.2.2.2.2.2.2.2.2.2.1 R.2.2.2.2.2.2.2.2.2.2.2.2.2.2.2.2.2.1 R.2.2.2.2.2.2.2.2.2.2.2.2.2.2.2.2.2.2.1 R.2.2.2.2.2.2.2.2.2.2.2.2.2.2.2.2.2.2.2.1 R.2.2.2.2.2.2.2.2.2.2.2.2.2.2.2.2.2.2.2.2 c_trial_after_keys c_trial_after_seed c_trial_before_keys c_trial_before_seed c_trial_acts c_trial_whyNot c_trial_work c_trial_alikeAct c_trial_alikePair) := by
  refine Ret.intro (lv := [(0, .ref (a o)), (1, .int l1), (2, .int l2), (3, .int l3)]) (by decide) (Nat.le_of_ble_eq_true rfl) rfl ?_
  intro g hgl G hQ
  subst hgl
  rw [f_X7_apart] at h
  refine w_iload_n (pc2 := 1) G 1 rfl dX7_apart_0 rfl rfl ?_
  obtain ⟨x1, H_x1, h⟩ := bs h
  refine w_cS0 (pc2 := 4) (As := [.int l1]) (rest := []) G koX7_73 (r_X7_isSet H_x1) (Nat.le_of_ble_eq_true rfl) rfl rfl (Nat.le_of_ble_eq_true rfl) ⟨Nat.zero_le _, Nat.zero_le _⟩ dX7_apart_1 rfl rfl ?_
  refine w_if_eq (tgt := 14) (pc2 := 7) G dX7_apart_4 (by decide) rfl (fun cc => ?_) (fun cc => ?_)
  · replace h := (if_pos cc).symm.trans h
    refine w_iconst (pc2 := 15) G dX7_apart_14 k_iconst_m1 rfl ?_
    cases h
    exact w_iret G hQ rfl ⟨rfl, rfl⟩ dX7_apart_15
  · replace h := (if_neg cc).symm.trans h
    refine w_iload_n (pc2 := 8) G 2 rfl dX7_apart_7 rfl rfl ?_
    obtain ⟨x2, H_x2, h⟩ := bs h
    refine w_cS0 (pc2 := 11) (As := [.int l2]) (rest := []) G koX7_73 (r_X7_isSet H_x2) (Nat.le_of_ble_eq_true rfl) rfl rfl (Nat.le_of_ble_eq_true rfl) ⟨Nat.zero_le _, Nat.zero_le _⟩ dX7_apart_8 rfl rfl ?_
    refine w_if_ne (tgt := 16) (pc2 := 14) G dX7_apart_11 (by decide) rfl (fun cc => ?_) (fun cc => ?_)
    · replace h := (if_neg cc).symm.trans h
      refine w_iload_n (pc2 := 17) G 3 rfl dX7_apart_16 rfl rfl ?_
      refine w_if_lt (tgt := 25) (pc2 := 20) G dX7_apart_17 (by decide) rfl (fun cc => ?_) (fun cc => ?_)
      · replace h := (if_pos cc).symm.trans h
        refine w_bipush (pc2 := 27) G dX7_apart_25 k_bipush_m2 rfl ?_
        cases h
        exact w_iret G hQ rfl ⟨rfl, rfl⟩ dX7_apart_27
      · replace h := (if_neg cc).symm.trans h
        refine w_iload_n (pc2 := 21) G 3 rfl dX7_apart_20 rfl rfl ?_
        refine w_iconst (pc2 := 22) G dX7_apart_21 k_iconst_2 rfl ?_
        refine w_icmp_le (tgt := 28) (pc2 := 25) G dX7_apart_22 (by decide) rfl (fun cc => ?_) (fun cc => ?_)
        · replace h := (if_pos cc).symm.trans h
          refine w_aload_n (pc2 := 29) G 0 rfl dX7_apart_28 rfl rfl ?_
          refine w_get (pc2 := 32) G foX7_10 0 rfl rfl dX7_apart_29 rfl ?_
          refine w_get (pc2 := 35) G foX7_79 1 rfl rfl dX7_apart_32 rfl ?_
          refine w_iload_n (pc2 := 36) G 1 rfl dX7_apart_35 rfl rfl ?_
          obtain ⟨v3, H_v3, h⟩ := bs h
          refine w_laldo (pc2 := 37) G 2 rfl H_v3 dX7_apart_36 rfl ?_
          refine w_lstore (pc2 := 39) (lv2 := [(4, .long v3), (0, .ref (a o)), (1, .int l1), (2, .int l2), (3, .int l3)]) G dX7_apart_37 (Nat.le_of_ble_eq_true rfl) rfl rfl ?_
          refine w_aload_n (pc2 := 40) G 1 rfl dX7_apart_39 rfl rfl ?_
          refine w_get (pc2 := 43) G foX7_10 0 rfl rfl dX7_apart_40 rfl ?_
          refine w_get (pc2 := 46) G foX7_79 1 rfl rfl dX7_apart_43 rfl ?_
          refine w_iload_n (pc2 := 47) G 3 rfl dX7_apart_46 rfl rfl ?_
          obtain ⟨v4, H_v4, h⟩ := bs h
          refine w_laldo (pc2 := 48) G 2 rfl H_v4 dX7_apart_47 rfl ?_
          refine w_lstore (pc2 := 50) (lv2 := [(6, .long v4), (4, .long v3), (0, .ref (a o)), (1, .int l1), (2, .int l2), (3, .int l3)]) G dX7_apart_48 (Nat.le_of_ble_eq_true rfl) rfl rfl ?_
          refine w_iload_n (pc2 := 51) G 5 rfl dX7_apart_50 rfl rfl ?_
          by_cases sdX7_apart_51_0 : l3 = (0 : Int32)
          · replace h := (if_pos sdX7_apart_51_0).symm.trans h
            refine w_look (tgt := 76) G dX7_apart_51 (by decide) (by rw [sdX7_apart_51_0] <;> rfl) (by decide) ?_
            refine w_lload (pc2 := 78) G 1 rfl dX7_apart_76 rfl ?_
            refine w_lload (pc2 := 80) G 0 rfl dX7_apart_78 rfl ?_
            refine w_lxor (pc2 := 81) G dX7_apart_80 rfl ?_
            obtain ⟨x5, H_x5, h⟩ := bs h
            refine w_cS0 (pc2 := 84) (As := [.long (v3 ^^^ v4)]) (rest := []) G koX7_87 (r_X7_count H_x5) (Nat.le_of_ble_eq_true rfl) rfl rfl (Nat.le_of_ble_eq_true rfl) ⟨Nat.zero_le _, Nat.zero_le _⟩ dX7_apart_81 rfl rfl ?_
            cases h
            exact w_iret G hQ rfl ⟨rfl, rfl⟩ dX7_apart_84
          replace h := (if_neg sdX7_apart_51_0).symm.trans h
          by_cases sdX7_apart_51_1 : l3 = (1 : Int32)
          · replace h := (if_pos sdX7_apart_51_1).symm.trans h
            refine w_look (tgt := 85) G dX7_apart_51 (by decide) (by rw [sdX7_apart_51_1] <;> rfl) (by decide) ?_
            refine w_aload_n (pc2 := 86) G 2 rfl dX7_apart_85 rfl rfl ?_
            refine w_get (pc2 := 89) G foX7_55 0 rfl rfl dX7_apart_86 rfl ?_
            refine w_aload_n (pc2 := 90) G 2 rfl dX7_apart_89 rfl rfl ?_
            refine w_get (pc2 := 93) G foX7_61 0 rfl rfl dX7_apart_90 rfl ?_
            refine w_lload (pc2 := 95) G 1 rfl dX7_apart_93 rfl ?_
            refine w_lload (pc2 := 97) G 0 rfl dX7_apart_95 rfl ?_
            refine w_aload_n (pc2 := 98) G 2 rfl dX7_apart_97 rfl rfl ?_
            refine w_get (pc2 := 101) G foX7_10 0 rfl rfl dX7_apart_98 rfl ?_
            refine w_get (pc2 := 104) G foX7_69 1 rfl rfl dX7_apart_101 rfl ?_
            refine w_iconst (pc2 := 105) G dX7_apart_104 k_iconst_0 rfl ?_
            obtain ⟨x6, H_x6, h⟩ := bs h
            refine w_cS1 (pc2 := 108) (ws2 := (wX7 E a o c_now_keys c_now_seed c_drawn_keys c_drawn_seed c_pad_signs c_pad_count c_sights_count c_sights_seeds c_img0_kept c_img0_world_keys c_img0_world_seed c_img0_sights_count c_img0_sights_seeds c_img1_kept c_img1_world_keys c_img1_world_seed c_img1_sights_count c_img1_sights_seeds c_trial_act_kind c_trial_act_set c_trial_act_key c_trial_act_other x6.2.1 x6.2.2.1 x6.2.2.2.1 x6.2.2.2.2.1 x6.2.2.2.2.2.1 x6.2.2.2.2.2.2.1 x6.2.2.2.2.2.2.2.1 x6.2.2.2.2.2.2.2.2.1 x6.2.2.2.2.2.2.2.2.2.1 x6.2.2.2.2.2.2.2.2.2.2.1 x6.2.2.2.2.2.2.2.2.2.2.2.1 x6.2.2.2.2.2.2.2.2.2.2.2.2.1 x6.2.2.2.2.2.2.2.2.2.2.2.2.2.1 x6.2.2.2.2.2.2.2.2.2.2.2.2.2.2.1 x6.2.2.2.2.2.2.2.2.2.2.2.2.2.2.2.1 x6.2.2.2.2.2.2.2.2.2.2.2.2.2.2.2.2.1 x6.2.2.2.2.2.2.2.2.2.2.2.2.2.2.2.2.2.1 x6.2.2.2.2.2.2.2.2.2.2.2.2.2.2.2.2.2.2.1 x6.2.2.2.2.2.2.2.2.2.2.2.2.2.2.2.2.2.2.2.1 x6.2.2.2.2.2.2.2.2.2.2.2.2.2.2.2.2.2.2.2.2 c_trial_after_keys c_trial_after_seed c_trial_before_keys c_trial_before_seed c_trial_acts c_trial_whyNot c_trial_work c_trial_alikeAct c_trial_alikePair)) (As := [.ref (a (o + 22)), .ref (a (o + 31)), .long v3, .long v4, .int c_now_seed, .int (0 : Int32)]) (rest := []) G koX7_181 (r_X7_looks (o := (o + 22)) (o1 := (o + 31)) H_x6) (Nat.le_of_ble_eq_true rfl) [22, 23, 24, 25, 26, 27, 28, 29, 30, 31, 32, 33, 34, 35, 36, 37, 38, 39] [0, 1, 2, 3, 4, 5, 6, 7, 8, 9, 10, 11, 12, 13, 14, 15, 16, 17, 18, 19, 20, 21, 40, 41, 42, 43] [0, 1, 2, 3, 4, 5, 6, 7, 8, 9, 10, 11, 12, 13, 14, 15, 16, 17, 18, 19, 20, 21, 26, 27, 28, 29, 30, 31, 32, 33, 34, 35, 36, 37, 38, 39, 40, 41, 42, 43, 22, 23, 24, 25] rfl rfl rfl rfl rfl rfl rfl rfl rfl (Nat.le_of_ble_eq_true rfl) ⟨Nat.zero_le _, Nat.zero_le _⟩ dX7_apart_105 rfl rfl ?_
            cases h
            exact w_iret G hQ rfl ⟨rfl, rfl⟩ dX7_apart_108
          replace h := (if_neg sdX7_apart_51_1).symm.trans h
          refine w_look (tgt := 109) G dX7_apart_51 (by decide) (look_out (by have e0 := ne_ti sdX7_apart_51_0; have e1 := ne_ti sdX7_apart_51_1; simp only [List.all_cons, List.all_nil, Bool.and_true, Bool.and_eq_true, decide_eq_true_eq]; exact ⟨e0, e1⟩)) (by decide) ?_
          refine w_aload_n (pc2 := 110) G 2 rfl dX7_apart_109 rfl rfl ?_
          refine w_lload (pc2 := 112) G 1 rfl dX7_apart_110 rfl ?_
          refine w_lload (pc2 := 114) G 0 rfl dX7_apart_112 rfl ?_
          obtain ⟨x7, H_x7, h⟩ := bs h
          refine w_cV0 (pc2 := 117) (ws2 := (wX7 E a o c_now_keys c_now_seed c_drawn_keys c_drawn_seed c_pad_signs c_pad_count c_sights_count c_sights_seeds c_img0_kept c_img0_world_keys c_img0_world_seed c_img0_sights_count c_img0_sights_seeds c_img1_kept c_img1_world_keys c_img1_world_seed c_img1_sights_count c_img1_sights_seeds c_trial_act_kind c_trial_act_set c_trial_act_key c_trial_act_other x7.2.1 x7.2.2.1 x7.2.2.2.1 x7.2.2.2.2.1 x7.2.2.2.2.2.1 x7.2.2.2.2.2.2.1 x7.2.2.2.2.2.2.2.1 x7.2.2.2.2.2.2.2.2.1 x7.2.2.2.2.2.2.2.2.2.1 x7.2.2.2.2.2.2.2.2.2.2.1 x7.2.2.2.2.2.2.2.2.2.2.2.1 x7.2.2.2.2.2.2.2.2.2.2.2.2.1 x7.2.2.2.2.2.2.2.2.2.2.2.2.2.1 x7.2.2.2.2.2.2.2.2.2.2.2.2.2.2.1 x7.2.2.2.2.2.2.2.2.2.2.2.2.2.2.2.1 x7.2.2.2.2.2.2.2.2.2.2.2.2.2.2.2.2.1 x7.2.2.2.2.2.2.2.2.2.2.2.2.2.2.2.2.2.1 x7.2.2.2.2.2.2.2.2.2.2.2.2.2.2.2.2.2.2.1 x7.2.2.2.2.2.2.2.2.2.2.2.2.2.2.2.2.2.2.2.1 x7.2.2.2.2.2.2.2.2.2.2.2.2.2.2.2.2.2.2.2.2 c_trial_after_keys c_trial_after_seed c_trial_before_keys c_trial_before_seed c_trial_acts c_trial_whyNot c_trial_work c_trial_alikeAct c_trial_alikePair)) (As := [.long v3, .long v4]) (rest := []) G koX7_185 (r_X7_shared H_x7) (Nat.le_of_ble_eq_true rfl) 7 rfl rfl rfl rfl (Nat.le_of_ble_eq_true rfl) ⟨Nat.zero_le _, Nat.zero_le _⟩ dX7_apart_114 rfl rfl ?_
          cases h
          exact w_iret G hQ rfl ⟨rfl, rfl⟩ dX7_apart_117
        · replace h := (if_neg cc).symm.trans h
          refine w_bipush (pc2 := 27) G dX7_apart_25 k_bipush_m2 rfl ?_
          cases h
          exact w_iret G hQ rfl ⟨rfl, rfl⟩ dX7_apart_27
    · replace h := (if_pos cc).symm.trans h
      refine w_iconst (pc2 := 15) G dX7_apart_14 k_iconst_m1 rfl ?_
      cases h
      exact w_iret G hQ rfl ⟨rfl, rfl⟩ dX7_apart_15
