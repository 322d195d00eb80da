set_option maxHeartbeats 4000000 in
set_option maxRecDepth 100000 in
theorem lp_X6_countAll_4 {g : CX} {E : EV} {a : Nat → Nat} {o : Nat} {c_seed : Int32}  (G : GG g E RX6 cX6_countAll 3 (some .int) 2 0 0) : ∀ (n : Nat) (c_keys : Nat → Int64) (l1 : Int32) (l2 : Int32) (R : Int32), L_X6_countAll_4 n c_keys l1 l2 = some R → WW g E 3 0 0 (wX6 E a o c_keys c_seed) [(1, .int R)] 27 [] → WW g E 3 0 0 (wX6 E a o c_keys c_seed) [(0, .ref (a o)), (1, .int l1), (2, .int l2)] 4 [] := by
  intro n
  induction n with
  | zero => intro c_keys l1 l2 R h; exact no_some h
  | succ n ih =>
    intro c_keys l1 l2 R h K
    rw [L_X6_countAll_4] at h
    refine w_iload_n (pc2 := 5) G 2 rfl dX6_countAll_4 rfl rfl ?_
    refine w_iconst (pc2 := 6) G dX6_countAll_5 k_iconst_4 rfl ?_
    refine w_icmp_ge (tgt := 27) (pc2 := 9) G dX6_countAll_6 (by decide) rfl (fun cc => ?_) (fun cc => ?_)
    · replace h := (if_pos cc).symm.trans h
      cases h
      exact w_lv [1] rfl K
    · replace h := (if_neg cc).symm.trans h
      refine w_iload_n (pc2 := 10) G 1 rfl dX6_countAll_9 rfl rfl ?_
      refine w_aload_n (pc2 := 11) G 0 rfl dX6_countAll_10 rfl rfl ?_
      refine w_get (pc2 := 14) G foX6_9 0 rfl rfl dX6_countAll_11 rfl ?_
      refine w_iload_n (pc2 := 15) G 2 rfl dX6_countAll_14 rfl rfl ?_
      obtain ⟨v1, H_v1, h⟩ := bs h
      refine w_laldo (pc2 := 16) G 1 rfl H_v1 dX6_countAll_15 rfl ?_
      obtain ⟨x2, H_x2, h⟩ := bs h
      refine w_cS0N (pc2 := 19) (As := [.long v1]) (rest := [.int l1]) G koX6_25 (r_X7_count H_x2) (Nat.le_of_ble_eq_true rfl) rfl rfl (Nat.le_of_ble_eq_true rfl) ⟨Nat.zero_le _, Nat.zero_le _⟩ dX6_countAll_16 rfl rfl ?_
      refine w_iadd (pc2 := 20) G dX6_countAll_19 rfl ?_
      refine w_istore_n (pc2 := 21) (lv2 := [(1, .int (l1 + x2)), (0, .ref (a o)), (2, .int l2)]) G dX6_countAll_20 rfl (Nat.le_of_ble_eq_true rfl) rfl rfl ?_
      refine w_iinc (pc2 := 24) (lv2 := [(2, .int (l2 + (1 : Int32))), (1, .int (l1 + x2)), (0, .ref (a o))]) G 2 rfl dX6_countAll_21 k_iconst_1 (Nat.le_of_ble_eq_true rfl) rfl rfl ?_
      refine w_goto (tgt := 4) G dX6_countAll_24 (by decide) ?_
      exact w_lv [2, 1, 0] rfl (ih _ _ _ _ h K)
set_option maxHeartbeats 4000000 in
set_option maxRecDepth 100000 in
theorem r_X6_countAll {l : Launch} {E : EV} {a : Nat → Nat} {o : Nat} {c_keys : Nat → Int64} {c_seed : Int32}  {R : Int32} (h : f_X6_countAll c_keys = some R) : Ret1 l E yX6_countAll cX6_countAll 3 (some .int) 2 (wX6 E a o c_keys c_seed) [.ref (a o)] (some (.int R)) (wX6 E a o c_keys c_seed) := by
  refine Ret.intro (lv := [(0, .ref (a o))]) (by decide) (Nat.le_of_ble_eq_true rfl) rfl ?_
  intro g hgl G hQ
  subst hgl
  rw [f_X6_countAll] at h
  refine w_iconst (pc2 := 1) G dX6_countAll_0 k_iconst_0 rfl ?_
  refine w_istore_n (pc2 := 2) (lv2 := [(1, .int (0 : Int32)), (0, .ref (a o))]) G dX6_countAll_1 rfl (Nat.le_of_ble_eq_true rfl) rfl rfl ?_
  refine w_iconst (pc2 := 3) G dX6_countAll_2 k_iconst_0 rfl ?_
  refine w_istore_n (pc2 := 4) (lv2 := [(2, .int (0 : Int32)), (1, .int (0 : Int32)), (0, .ref (a o))]) G dX6_countAll_3 rfl (Nat.le_of_ble_eq_true rfl) rfl rfl ?_
  obtain ⟨x1, h0, h⟩ := bs h
  have K_x1 : WW g E 3 0 0 (wX6 E a o c_keys c_seed) [(1, .int x1)] 27 [] := by
    clear h0
    refine w_iload_n (pc2 := 28) G 0 rfl dX6_countAll_27 rfl rfl ?_
    cases h
    exact w_iret G hQ rfl ⟨rfl, rfl⟩ dX6_countAll_28
  exact w_lv [2, 1, 0] rfl (lp_X6_countAll_4 G 20000 _ _ _ _ h0 (w_lv [0] rfl K_x1))

set_option maxHeartbeats 4000000 in
set_option maxRecDepth 100000 in
theorem r_X7_isSeed {l : Launch} {E : EV}  {l0 : Int32} {R : Int32} (h : f_X7_isSeed l0 = some R) : Ret1 l E yX7_isSeed cX7_isSeed 1 (some .boolean) 0 [] [.int l0] (some (.int R)) [] := by
  refine Ret.intro (lv := [(0, .int l0)]) (by decide) (Nat.le_of_ble_eq_true rfl) rfl ?_
  intro g hgl G hQ
  subst hgl
  rw [f_X7_isSeed] at h
  refine w_iload_n (pc2 := 1) G 0 rfl dX7_isSeed_0 rfl rfl ?_
  refine w_if_lt (tgt := 15) (pc2 := 4) G dX7_isSeed_1 (by decide) rfl (fun cc => ?_) (fun cc => ?_)
  · replace h := (if_pos cc).symm.trans h
    refine w_iconst (pc2 := 16) G dX7_isSeed_15 k_iconst_0 rfl ?_
    cases h
    exact w_zret G hQ rfl (Or.inl rfl) ⟨rfl, rfl⟩ dX7_isSeed_16
  · replace h := (if_neg cc).symm.trans h
    refine w_iload_n (pc2 := 5) G 0 rfl dX7_isSeed_4 rfl rfl ?_
    refine w_sipush (pc2 := 8) G dX7_isSeed_5 k_sipush_10000 rfl ?_
    refine w_icmp_ge (tgt := 15) (pc2 := 11) G dX7_isSeed_8 (by decide) rfl (fun cc => ?_) (fun cc => ?_)
    · replace h := (if_pos cc).symm.trans h
      refine w_iconst (pc2 := 16) G dX7_isSeed_15 k_iconst_0 rfl ?_
      cases h
      exact w_zret G hQ rfl (Or.inl rfl) ⟨rfl, rfl⟩ dX7_isSeed_16
    · replace h := (if_neg cc).symm.trans h
      refine w_iconst (pc2 := 12) G dX7_isSeed_11 k_iconst_1 rfl ?_
      refine w_goto (tgt := 16) G dX7_isSeed_12 (by decide) ?_
      cases h
      exact w_zret G hQ rfl (Or.inr rfl) ⟨rfl, rfl⟩ dX7_isSeed_16

set_option maxHeartbeats 4000000 in
set_option maxRecDepth 100000 in
theorem r_X7_seed {l : Launch} {E : EV} {a : Nat → Nat} {o : Nat} {c_now_keys : Nat → Int64} {c_now_seed : Int32} {c_drawn_keys : Nat → Int64} {c_drawn_seed : Int32} {c_pad_signs : Nat → Int32} {c_pad_count c_sights_count : Int32} {c_sights_seeds : Nat → Int64} {c_img0_kept : Int32} {c_img0_world_keys : Nat → Int64} {c_img0_world_seed c_img0_sights_count : Int32} {c_img0_sights_seeds : Nat → Int64} {c_img1_kept : Int32} {c_img1_world_keys : Nat → Int64} {c_img1_world_seed c_img1_sights_count : Int32} {c_img1_sights_seeds : Nat → Int64} {c_trial_act_kind c_trial_act_set c_trial_act_key c_trial_act_other : Int32} {c_trial_tb_left c_trial_tb_right c_trial_tb_parent : Nat → Int32} {c_trial_tb_span : Nat → Int64} {c_trial_tb_root : Int32} {c_trial_tb_digest c_trial_tb_height c_trial_tb_priority : Nat → Int32} {c_trial_tb_pricedBy : Int32} {c_trial_tb_open c_trial_ta_left c_trial_ta_right c_trial_ta_parent : Nat → Int32} {c_trial_ta_span : Nat → Int64} {c_trial_ta_root : Int32} {c_trial_ta_digest c_trial_ta_height c_trial_ta_priority : Nat → Int32} {c_trial_ta_pricedBy : Int32} {c_trial_ta_open : Nat → Int32} {c_trial_after_keys : Nat → Int64} {c_trial_after_seed : Int32} {c_trial_before_keys : Nat → Int64} {c_trial_before_seed c_trial_acts c_trial_whyNot c_trial_work c_trial_alikeAct c_trial_alikePair : Int32} {l1 : Int32} {R : Int32 × Int32} (h : f_X7_seed c_now_seed l1 = some R) : Ret1 l E yX7_seed cX7_seed 3 (some .int) 1 (wX7 E a o c_now_keys c_now_seed c_drawn_keys c_drawn_seed c_pad_signs c_pad_count c_sights_count c_sights_seeds c_img0_kept c_img0_world_keys c_img0_world_seed c_img0_sights_count c_img0_sights_seeds c_img1_kept c_img1_world_keys c_img1_world_seed c_img1_sights_count c_img1_sights_seeds c_trial_act_kind c_trial_act_set c_trial_act_key c_trial_act_other c_trial_tb_left c_trial_tb_right c_trial_tb_parent c_trial_tb_span c_trial_tb_root c_trial_tb_digest c_trial_tb_height c_trial_tb_priority c_trial_tb_pricedBy c_trial_tb_open c_trial_ta_left c_trial_ta_right c_trial_ta_parent c_trial_ta_span c_trial_ta_root c_trial_ta_digest c_trial_ta_height c_trial_ta_priority c_trial_ta_pricedBy c_trial_ta_open c_trial_after_keys c_trial_after_seed c_trial_before_keys c_trial_before_seed c_trial_acts c_trial_whyNot c_trial_work c_trial_alikeAct c_trial_alikePair) [.ref (a o), .int l1] (some (.int R.1)) (wX7 E a o c_now_keys R.2 c_drawn_keys c_drawn_seed c_pad_signs c_pad_count c_sights_count c_sights_seeds c_img0_kept c_img0_world_keys c_img0_world_seed c_img0_sights_count c_img0_sights_seeds c_img1_kept c_img1_world_keys c_img1_world_seed c_img1_sights_count c_img1_sights_seeds c_trial_act_kind c_trial_act_set c_trial_act_key c_trial_act_other c_trial_tb_left c_trial_tb_right c_trial_tb_parent c_trial_tb_span c_trial_tb_root c_trial_tb_digest c_trial_tb_height c_trial_tb_priority c_trial_tb_pricedBy c_trial_tb_open c_trial_ta_left c_trial_ta_right c_trial_ta_parent c_trial_ta_span c_trial_ta_root c_trial_ta_digest c_trial_ta_height c_trial_ta_priority c_trial_ta_pricedBy c_trial_ta_open c_trial_after_keys c_trial_after_seed c_trial_before_keys c_trial_before_seed c_trial_acts c_trial_whyNot c_trial_work c_trial_alikeAct c_trial_alikePair) := by
  refine Ret.intro (lv := [(0, .ref (a o)), (1, .int l1)]) (by decide) (Nat.le_of_ble_eq_true rfl) rfl ?_
  intro g hgl G hQ
  subst hgl
  rw [f_X7_seed] at h
  refine w_iload_n (pc2 := 1) G 1 rfl dX7_seed_0 rfl rfl ?_
  obtain ⟨x1, H_x1, h⟩ := bs h
  refine w_cS0 (pc2 := 4) (As := [.int l1]) (rest := []) G koX7_65 (r_X7_isSeed H_x1) (Nat.le_of_ble_eq_true rfl) rfl rfl (Nat.le_of_ble_eq_true rfl) ⟨Nat.zero_le _, Nat.zero_le _⟩ dX7_seed_1 rfl rfl ?_
  refine w_if_ne (tgt := 10) (pc2 := 7) G dX7_seed_4 (by decide) rfl (fun cc => ?_) (fun cc => ?_)
  · replace h := (if_neg cc).symm.trans h
    refine w_aload_n (pc2 := 11) G 0 rfl dX7_seed_10 rfl rfl ?_
    refine w_get (pc2 := 14) G foX7_10 0 rfl rfl dX7_seed_11 rfl ?_
    refine w_get (pc2 := 17) G foX7_69 1 rfl rfl dX7_seed_14 rfl ?_
    refine w_istore_n (pc2 := 18) (lv2 := [(2, .int c_now_seed), (0, .ref (a o)), (1, .int l1)]) G dX7_seed_17 rfl (Nat.le_of_ble_eq_true rfl) rfl rfl ?_
    refine w_aload_n (pc2 := 19) G 1 rfl dX7_seed_18 rfl rfl ?_
    refine w_get (pc2 := 22) G foX7_10 0 rfl rfl dX7_seed_19 rfl ?_
    refine w_iload_n (pc2 := 23) G 2 rfl dX7_seed_22 rfl rfl ?_
    refine w_put (pc2 := 26) (ws2 := (wX7 E a o c_now_keys l1 c_drawn_keys c_drawn_seed c_pad_signs c_pad_count c_sights_count c_sights_seeds c_img0_kept c_img0_world_keys c_img0_world_seed c_img0_sights_count c_img0_sights_seeds c_img1_kept c_img1_world_keys c_img1_world_seed c_img1_sights_count c_img1_sights_seeds c_trial_act_kind c_trial_act_set c_trial_act_key c_trial_act_other c_trial_tb_left c_trial_tb_right c_trial_tb_parent c_trial_tb_span c_trial_tb_root c_trial_tb_digest c_trial_tb_height c_trial_tb_priority c_trial_tb_pricedBy c_trial_tb_open c_trial_ta_left c_trial_ta_right c_trial_ta_parent c_trial_ta_span c_trial_ta_root c_trial_ta_digest c_trial_ta_height c_trial_ta_priority c_trial_ta_pricedBy c_trial_ta_open c_trial_after_keys c_trial_after_seed c_trial_before_keys c_trial_before_seed c_trial_acts c_trial_whyNot c_trial_work c_trial_alikeAct c_trial_alikePair)) G foX7_69 tokX6 1 rfl rfl rfl rfl (Nat.le_of_ble_eq_true rfl) rfl dX7_seed_23 rfl ?_
    refine w_iload_n (pc2 := 27) G 0 rfl dX7_seed_26 rfl rfl ?_
    cases h
    exact w_iret G hQ rfl ⟨rfl, rfl⟩ dX7_seed_27
  · replace h := (if_pos cc).symm.trans h
    refine w_bipush (pc2 := 9) G dX7_seed_7 k_bipush_m2 rfl ?_
    cases h
    exact w_iret G hQ rfl ⟨rfl, rfl⟩ dX7_seed_9

set_option maxHeartbeats 4000000 in
set_option maxRecDepth 100000 in
theorem r_X7_isKey {l : Launch} {E : EV}  {l0 : Int32} {R : Int32} (h : f_X7_isKey l0 = some R) : Ret1 l E yX7_isKey cX7_isKey 1 (some .boolean) 0 [] [.int l0] (some (.int R)) [] := by
  refine Ret.intro (lv := [(0, .int l0)]) (by decide) (Nat.le_of_ble_eq_true rfl) rfl ?_
  intro g hgl G hQ
  subst hgl
  rw [f_X7_isKey] at h
  refine w_iload_n (pc2 := 1) G 0 rfl dX7_isKey_0 rfl rfl ?_
  refine w_if_lt (tgt := 14) (pc2 := 4) G dX7_isKey_1 (by decide) rfl (fun cc => ?_) (fun cc => ?_)
  · replace h := (if_pos cc).symm.trans h
    refine w_iconst (pc2 := 15) G dX7_isKey_14 k_iconst_0 rfl ?_
    cases h
    exact w_zret G hQ rfl (Or.inl rfl) ⟨rfl, rfl⟩ dX7_isKey_15
  · replace h := (if_neg cc).symm.trans h
    refine w_iload_n (pc2 := 5) G 0 rfl dX7_isKey_4 rfl rfl ?_
    refine w_bipush (pc2 := 7) G dX7_isKey_5 k_bipush_50 rfl ?_
    refine w_icmp_ge (tgt := 14) (pc2 := 10) G dX7_isKey_7 (by decide) rfl (fun cc => ?_) (fun cc => ?_)
    · replace h := (if_pos cc).symm.trans h
      refine w_iconst (pc2 := 15) G dX7_isKey_14 k_iconst_0 rfl ?_
      cases h
      exact w_zret G hQ rfl (Or.inl rfl) ⟨rfl, rfl⟩ dX7_isKey_15
    · replace h := (if_neg cc).symm.trans h
      refine w_iconst (pc2 := 11) G dX7_isKey_10 k_iconst_1 rfl ?_
      refine w_goto (tgt := 15) G dX7_isKey_11 (by decide) ?_
      cases h
      exact w_zret G hQ rfl (Or.inr rfl) ⟨rfl, rfl⟩ dX7_isKey_15

set_option maxHeartbeats 4000000 in
set_option maxRecDepth 100000 in
theorem r_X7_put {l : Launch} {E : EV} {a : Nat → Nat} {o : Nat} {c_now_keys : Nat → Int64} {c_now_seed : Int32} {c_drawn_keys : Nat → Int64} {c_drawn_seed : Int32} {c_pad_signs : Nat → Int32} {c_pad_count c_sights_count : Int32} {c_sights_seeds : Nat → Int64} {c_img0_kept : Int32} {c_img0_world_keys : Nat → Int64} {c_img0_world_seed c_img0_sights_count : Int32} {c_img0_sights_seeds : Nat → Int64} {c_img1_kept : Int32} {c_img1_world_keys : Nat → Int64} {c_img1_world_seed c_img1_sights_count : Int32} {c_img1_sights_seeds : Nat → Int64} {c_trial_act_kind c_trial_act_set c_trial_act_key c_trial_act_other : Int32} {c_trial_tb_left c_trial_tb_right c_trial_tb_parent : Nat → Int32} {c_trial_tb_span : Nat → Int64} {c_trial_tb_root : Int32} {c_trial_tb_digest c_trial_tb_height c_trial_tb_priority : Nat → Int32} {c_trial_tb_pricedBy : Int32} {c_trial_tb_open c_trial_ta_left c_trial_ta_right c_trial_ta_parent : Nat → Int32} {c_trial_ta_span : Nat → Int64} {c_trial_ta_root : Int32} {c_trial_ta_digest c_trial_ta_height c_trial_ta_priority : Nat → Int32} {c_trial_ta_pricedBy : Int32} {c_trial_ta_open : Nat → Int32} {c_trial_after_keys : Nat → Int64} {c_trial_after_seed : Int32} {c_trial_before_keys : Nat → Int64} {c_trial_before_seed c_trial_acts c_trial_whyNot c_trial_work c_trial_alikeAct c_trial_alikePair : Int32} {l1 : Int32} {l2 : Int32} {l3 : Int32} {R : Int32 × (Nat → Int64)} (h : f_X7_put c_now_keys l1 l2 l3 = some R) : Ret1 l E yX7_put cX7_put 4 (some .int) 2 (wX7 E a o c_now_keys c_now_seed c_drawn_keys c_drawn_seed c_pad_signs c_pad_count c_sights_count c_sights_seeds c_img0_kept c_img0_world_keys c_img0_world_seed c_img0_sights_count c_img0_sights_seeds c_img1_kept c_img1_world_keys c_img1_world_seed c_img1_sights_count c_img1_sights_seeds c_trial_act_kind c_trial_act_set c_trial_act_key c_trial_act_other c_trial_tb_left c_trial_tb_right c_trial_tb_parent c_trial_tb_span c_trial_tb_root c_trial_tb_digest c_trial_tb_height c_trial_tb_priority c_trial_tb_pricedBy c_trial_tb_open c_trial_ta_left c_trial_ta_right c_trial_ta_parent c_trial_ta_span c_trial_ta_root c_trial_ta_digest c_trial_ta_height c_trial_ta_priority c_trial_ta_pricedBy c_trial_ta_open c_trial_after_keys c_trial_after_seed c_trial_before_keys c_trial_before_seed c_trial_acts c_trial_whyNot c_trial_work c_trial_alikeAct c_trial_alikePair) [.ref (a o), .int l1, .int l2, .int l3] (some (.int R.1)) (wX7 E a o R.2 c_now_seed c_drawn_keys c_drawn_seed c_pad_signs c_pad_count c_sights_count c_sights_seeds c_img0_kept c_img0_world_keys c_img0_world_seed c_img0_sights_count c_img0_sights_seeds c_img1_kept c_img1_world_keys c_img1_world_seed c_img1_sights_count c_img1_sights_seeds c_trial_act_kind c_trial_act_set c_trial_act_key c_trial_act_other c_trial_tb_left c_trial_tb_right c_trial_tb_parent c_trial_tb_span c_trial_tb_root c_trial_tb_digest c_trial_tb_height c_trial_tb_priority c_trial_tb_pricedBy c_trial_tb_open c_trial_ta_left c_trial_ta_right c_trial_ta_parent c_trial_ta_span c_trial_ta_root c_trial_ta_digest c_trial_ta_height c_trial_ta_priority c_trial_ta_pricedBy c_trial_ta_open c_trial_after_keys c_trial_after_seed c_trial_before_keys c_trial_before_seed c_trial_acts c_trial_whyNot c_trial_work c_trial_alikeAct c_trial_alikePair) := by
  refine Ret.intro (lv := [(0, .ref (a o)), (1, .int l1), (2, .int l2), (3, .int l3)]) (by decide) (Nat.le_of_ble_eq_true rfl) rfl ?_
  intro g hgl G hQ
  subst hgl
  rw [f_X7_put] at h
  refine w_iload_n (pc2 := 1) G 1 rfl dX7_put_0 rfl rfl ?_
  obtain ⟨x1, H_x1, h⟩ := bs h
  refine w_cS0 (pc2 := 4) (As := [.int l1]) (rest := []) G koX7_73 (r_X7_isSet H_x1) (Nat.le_of_ble_eq_true rfl) rfl rfl (Nat.le_of_ble_eq_true rfl) ⟨Nat.zero_le _, Nat.zero_le _⟩ dX7_put_1 rfl rfl ?_
  refine w_if_eq (tgt := 14) (pc2 := 7) G dX7_put_4 (by decide) rfl (fun cc => ?_) (fun cc => ?_)
  · replace h := (if_pos cc).symm.trans h
    refine w_iconst (pc2 := 15) G dX7_put_14 k_iconst_m1 rfl ?_
    cases h
    exact w_iret G hQ rfl ⟨rfl, rfl⟩ dX7_put_15
  · replace h := (if_neg cc).symm.trans h
    refine w_iload_n (pc2 := 8) G 2 rfl dX7_put_7 rfl rfl ?_
    obtain ⟨x2, H_x2, h⟩ := bs h
    refine w_cS0 (pc2 := 11) (As := [.int l2]) (rest := []) G koX7_76 (r_X7_isKey H_x2) (Nat.le_of_ble_eq_true rfl) rfl rfl (Nat.le_of_ble_eq_true rfl) ⟨Nat.zero_le _, Nat.zero_le _⟩ dX7_put_8 rfl rfl ?_
    refine w_if_ne (tgt := 16) (pc2 := 14) G dX7_put_11 (by decide) rfl (fun cc => ?_) (fun cc => ?_)
    · replace h := (if_neg cc).symm.trans h
      refine w_iload_n (pc2 := 17) G 3 rfl dX7_put_16 rfl rfl ?_
      refine w_if_eq (tgt := 56) (pc2 := 20) G dX7_put_17 (by decide) rfl (fun cc => ?_) (fun cc => ?_)
      · replace h := (if_pos cc).symm.trans h
        refine w_aload_n (pc2 := 57) G 0 rfl dX7_put_56 rfl rfl ?_
        refine w_get (pc2 := 60) G foX7_10 0 rfl rfl dX7_put_57 rfl ?_
        refine w_get (pc2 := 63) G foX7_79 1 rfl rfl dX7_put_60 rfl ?_
        refine w_iload_n (pc2 := 64) G 1 rfl dX7_put_63 rfl rfl ?_
        refine w_iload_n (pc2 := 65) G 3 rfl dX7_put_64 rfl rfl ?_
        refine w_if_eq (tgt := 85) (pc2 := 68) G dX7_put_65 (by decide) rfl (fun cc => ?_) (fun cc => ?_)
        · replace h := (if_pos cc).symm.trans h
          refine w_aload_n (pc2 := 86) G 0 rfl dX7_put_85 rfl rfl ?_
          refine w_get (pc2 := 89) G foX7_10 0 rfl rfl dX7_put_86 rfl ?_
          refine w_get (pc2 := 92) G foX7_79 1 rfl rfl dX7_put_89 rfl ?_
          refine w_iload_n (pc2 := 93) G 1 rfl dX7_put_92 rfl rfl ?_
          obtain ⟨v3, H_v3, h⟩ := bs h
          refine w_laldo (pc2 := 94) G 2 rfl H_v3 dX7_put_93 rfl ?_
          refine w_iload_n (pc2 := 95) G 2 rfl dX7_put_94 rfl rfl ?_
          obtain ⟨x4, H_x4, h⟩ := bs h
          refine w_cS0 (pc2 := 98) (As := [.int l2]) (rest := [.long v3, .int l1, .ref (a (o + 2))]) G koX7_91 (r_X7_bit H_x4) (Nat.le_of_ble_eq_true rfl) rfl rfl (Nat.le_of_ble_eq_true rfl) ⟨Nat.zero_le _, Nat.zero_le _⟩ dX7_put_95 rfl rfl ?_
          refine w_ldc2 (pc2 := 101) G wd_108 dX7_put_98 rfl ?_
          refine w_lxor (pc2 := 102) G dX7_put_101 rfl ?_
          refine w_land (pc2 := 103) G dX7_put_102 rfl ?_
          obtain ⟨f5, H_f5, h⟩ := bs h
          refine w_lasto (pc2 := 104) (ws2 := (wX7 E a o f5 c_now_seed c_drawn_keys c_drawn_seed c_pad_signs c_pad_count c_sights_count c_sights_seeds c_img0_kept c_img0_world_keys c_img0_world_seed c_img0_sights_count c_img0_sights_seeds c_img1_kept c_img1_world_keys c_img1_world_seed c_img1_sights_count c_img1_sights_seeds c_trial_act_kind c_trial_act_set c_trial_act_key c_trial_act_other c_trial_tb_left c_trial_tb_right c_trial_tb_parent c_trial_tb_span c_trial_tb_root c_trial_tb_digest c_trial_tb_height c_trial_tb_priority c_trial_tb_pricedBy c_trial_tb_open c_trial_ta_left c_trial_ta_right c_trial_ta_parent c_trial_ta_span c_trial_ta_root c_trial_ta_digest c_trial_ta_height c_trial_ta_priority c_trial_ta_pricedBy c_trial_ta_open c_trial_after_keys c_trial_after_seed c_trial_before_keys c_trial_before_seed c_trial_acts c_trial_whyNot c_trial_work c_trial_alikeAct c_trial_alikePair)) G 2 rfl H_f5 rfl dX7_put_103 rfl ?_
          refine w_aload_n (pc2 := 105) G 0 rfl dX7_put_104 rfl rfl ?_
          refine w_get (pc2 := 108) G foX7_10 0 rfl rfl dX7_put_105 rfl ?_
          refine w_get (pc2 := 111) G foX7_79 1 rfl rfl dX7_put_108 rfl ?_
          refine w_iload_n (pc2 := 112) G 1 rfl dX7_put_111 rfl rfl ?_
          obtain ⟨v6, H_v6, h⟩ := bs h
          refine w_laldo (pc2 := 113) G 2 rfl H_v6 dX7_put_112 rfl ?_
          obtain ⟨x7, H_x7, h⟩ := bs h
          refine w_cS0 (pc2 := 116) (As := [.long v6]) (rest := []) G koX7_87 (r_X7_count H_x7) (Nat.le_of_ble_eq_true rfl) rfl rfl (Nat.le_of_ble_eq_true rfl) ⟨Nat.zero_le _, Nat.zero_le _⟩ dX7_put_113 rfl rfl ?_
          cases h
          exact w_iret G hQ rfl ⟨rfl, rfl⟩ dX7_put_116
        · replace h := (if_neg cc).symm.trans h
          refine w_aload_n (pc2 := 69) G 0 rfl dX7_put_68 rfl rfl ?_
          refine w_get (pc2 := 72) G foX7_10 0 rfl rfl dX7_put_69 rfl ?_
          refine w_get (pc2 := 75) G foX7_79 1 rfl rfl dX7_put_72 rfl ?_
          refine w_iload_n (pc2 := 76) G 1 rfl dX7_put_75 rfl rfl ?_
          obtain ⟨v8, H_v8, h⟩ := bs h
          refine w_laldo (pc2 := 77) G 2 rfl H_v8 dX7_put_76 rfl ?_
          refine w_iload_n (pc2 := 78) G 2 rfl dX7_put_77 rfl rfl ?_
          obtain ⟨x9, H_x9, h⟩ := bs h
          refine w_cS0 (pc2 := 81) (As := [.int l2]) (rest := [.long v8, .int l1, .ref (a (o + 2))]) G koX7_91 (r_X7_bit H_x9) (Nat.le_of_ble_eq_true rfl) rfl rfl (Nat.le_of_ble_eq_true rfl) ⟨Nat.zero_le _, Nat.zero_le _⟩ dX7_put_78 rfl rfl ?_
          refine w_lor (pc2 := 82) G dX7_put_81 rfl ?_
          refine w_goto (tgt := 103) G dX7_put_82 (by decide) ?_
          obtain ⟨f10, H_f10, h⟩ := bs h
          refine w_lasto (pc2 := 104) (ws2 := (wX7 E a o f10 c_now_seed c_drawn_keys c_drawn_seed c_pad_signs c_pad_count c_sights_count c_sights_seeds c_img0_kept c_img0_world_keys c_img0_world_seed c_img0_sights_count c_img0_sights_seeds c_img1_kept c_img1_world_keys c_img1_world_seed c_img1_sights_count c_img1_sights_seeds c_trial_act_kind c_trial_act_set c_trial_act_key c_trial_act_other c_trial_tb_left c_trial_tb_right c_trial_tb_parent c_trial_tb_span c_trial_tb_root c_trial_tb_digest c_trial_tb_height c_trial_tb_priority c_trial_tb_pricedBy c_trial_tb_open c_trial_ta_left c_trial_ta_right c_trial_ta_parent c_trial_ta_span c_trial_ta_root c_trial_ta_digest c_trial_ta_height c_trial_ta_priority c_trial_ta_pricedBy c_trial_ta_open c_trial_after_keys c_trial_after_seed c_trial_before_keys c_trial_before_seed c_trial_acts c_trial_whyNot c_trial_work c_trial_alikeAct c_trial_alikePair)) G 2 rfl H_f10 rfl dX7_put_103 rfl ?_
          refine w_aload_n (pc2 := 105) G 0 rfl dX7_put_104 rfl rfl ?_
          refine w_get (pc2 := 108) G foX7_10 0 rfl rfl dX7_put_105 rfl ?_
          refine w_get (pc2 := 111) G foX7_79 1 rfl rfl dX7_put_108 rfl ?_
          refine w_iload_n (pc2 := 112) G 1 rfl dX7_put_111 rfl rfl ?_
          obtain ⟨v11, H_v11, h⟩ := bs h
          refine w_laldo (pc2 := 113) G 2 rfl H_v11 dX7_put_112 rfl ?_
          obtain ⟨x12, H_x12, h⟩ := bs h
          refine w_cS0 (pc2 := 116) (As := [.long v11]) (rest := []) G koX7_87 (r_X7_count H_x12) (Nat.le_of_ble_eq_true rfl) rfl rfl (Nat.le_of_ble_eq_true rfl) ⟨Nat.zero_le _, Nat.zero_le _⟩ dX7_put_113 rfl rfl ?_
          cases h
          exact w_iret G hQ rfl ⟨rfl, rfl⟩ dX7_put_116
      · replace h := (if_neg cc).symm.trans h
        refine w_aload_n (pc2 := 21) G 0 rfl dX7_put_20 rfl rfl ?_
        refine w_get (pc2 := 24) G foX7_10 0 rfl rfl dX7_put_21 rfl ?_
        refine w_get (pc2 := 27) G foX7_79 1 rfl rfl dX7_put_24 rfl ?_
        refine w_iload_n (pc2 := 28) G 1 rfl dX7_put_27 rfl rfl ?_
        obtain ⟨v13, H_v13, h⟩ := bs h
        refine w_laldo (pc2 := 29) G 2 rfl H_v13 dX7_put_28 rfl ?_
        refine w_iload_n (pc2 := 30) G 2 rfl dX7_put_29 rfl rfl ?_
        obtain ⟨x14, H_x14, h⟩ := bs h
        refine w_cS0 (pc2 := 33) (As := [.long v13, .int l2]) (rest := []) G koX7_83 (r_X7_isIn H_x14) (Nat.le_of_ble_eq_true rfl) rfl rfl (Nat.le_of_ble_eq_true rfl) ⟨Nat.zero_le _, Nat.zero_le _⟩ dX7_put_30 rfl rfl ?_
        refine w_if_ne (tgt := 56) (pc2 := 36) G dX7_put_33 (by decide) rfl (fun cc => ?_) (fun cc => ?_)
        · replace h := (if_neg cc).symm.trans h
          refine w_aload_n (pc2 := 57) G 0 rfl dX7_put_56 rfl rfl ?_
          refine w_get (pc2 := 60) G foX7_10 0 rfl rfl dX7_put_57 rfl ?_
          refine w_get (pc2 := 63) G foX7_79 1 rfl rfl dX7_put_60 rfl ?_
          refine w_iload_n (pc2 := 64) G 1 rfl dX7_put_63 rfl rfl ?_
          refine w_iload_n (pc2 := 65) G 3 rfl dX7_put_64 rfl rfl ?_
          refine w_if_eq (tgt := 85) (pc2 := 68) G dX7_put_65 (by decide) rfl (fun cc => ?_) (fun cc => ?_)
          · replace h := (if_pos cc).symm.trans h
            refine w_aload_n (pc2 := 86) G 0 rfl dX7_put_85 rfl rfl ?_
            refine w_get (pc2 := 89) G foX7_10 0 rfl rfl dX7_put_86 rfl ?_
            refine w_get (pc2 := 92) G foX7_79 1 rfl rfl dX7_put_89 rfl ?_
            refine w_iload_n (pc2 := 93) G 1 rfl dX7_put_92 rfl rfl ?_
            obtain ⟨v15, H_v15, h⟩ := bs h
            refine w_laldo (pc2 := 94) G 2 rfl H_v15 dX7_put_93 rfl ?_
            refine w_iload_n (pc2 := 95) G 2 rfl dX7_put_94 rfl rfl ?_
            obtain ⟨x16, H_x16, h⟩ := bs h
            refine w_cS0 (pc2 := 98) (As := [.int l2]) (rest := [.long v15, .int l1, .ref (a (o + 2))]) G koX7_91 (r_X7_bit H_x16) (Nat.le_of_ble_eq_true rfl) rfl rfl (Nat.le_of_ble_eq_true rfl) ⟨Nat.zero_le _, Nat.zero_le _⟩ dX7_put_95 rfl rfl ?_
            refine w_ldc2 (pc2 := 101) G wd_108 dX7_put_98 rfl ?_
            refine w_lxor (pc2 := 102) G dX7_put_101 rfl ?_
            refine w_land (pc2 := 103) G dX7_put_102 rfl ?_
            obtain ⟨f17, H_f17, h⟩ := bs h
            refine w_lasto (pc2 := 104) (ws2 := (wX7 E a o f17 c_now_seed c_drawn_keys c_drawn_seed c_pad_signs c_pad_count c_sights_count c_sights_seeds c_img0_kept c_img0_world_keys c_img0_world_seed c_img0_sights_count c_img0_sights_seeds c_img1_kept c_img1_world_keys c_img1_world_seed c_img1_sights_count c_img1_sights_seeds c_trial_act_kind c_trial_act_set c_trial_act_key c_trial_act_other c_trial_tb_left c_trial_tb_right c_trial_tb_parent c_trial_tb_span c_trial_tb_root c_trial_tb_digest c_trial_tb_height c_trial_tb_priority c_trial_tb_pricedBy c_trial_tb_open c_trial_ta_left c_trial_ta_right c_trial_ta_parent c_trial_ta_span c_trial_ta_root c_trial_ta_digest c_trial_ta_height c_trial_ta_priority c_trial_ta_pricedBy c_trial_ta_open c_trial_after_keys c_trial_after_seed c_trial_before_keys c_trial_before_seed c_trial_acts c_trial_whyNot c_trial_work c_trial_alikeAct c_trial_alikePair)) G 2 rfl H_f17 rfl dX7_put_103 rfl ?_
            refine w_aload_n (pc2 := 105) G 0 rfl dX7_put_104 rfl rfl ?_
            refine w_get (pc2 := 108) G foX7_10 0 rfl rfl dX7_put_105 rfl ?_
            refine w_get (pc2 := 111) G foX7_79 1 rfl rfl dX7_put_108 rfl ?_
            refine w_iload_n (pc2 := 112) G 1 rfl dX7_put_111 rfl rfl ?_
            obtain ⟨v18, H_v18, h⟩ := bs h
            refine w_laldo (pc2 := 113) G 2 rfl H_v18 dX7_put_112 rfl ?_
            obtain ⟨x19, H_x19, h⟩ := bs h
            refine w_cS0 (pc2 := 116) (As := [.long v18]) (rest := []) G koX7_87 (r_X7_count H_x19) (Nat.le_of_ble_eq_true rfl) rfl rfl (Nat.le_of_ble_eq_true rfl) ⟨Nat.zero_le _, Nat.zero_le _⟩ dX7_put_113 rfl rfl ?_
            cases h
            exact w_iret G hQ rfl ⟨rfl, rfl⟩ dX7_put_116
          · replace h := (if_neg cc).symm.trans h
            refine w_aload_n (pc2 := 69) G 0 rfl dX7_put_68 rfl rfl ?_
            refine w_get (pc2 := 72) G foX7_10 0 rfl rfl dX7_put_69 rfl ?_
            refine w_get (pc2 := 75) G foX7_79 1 rfl rfl dX7_put_72 rfl ?_
            refine w_iload_n (pc2 := 76) G 1 rfl dX7_put_75 rfl rfl ?_
            obtain ⟨v20, H_v20, h⟩ := bs h
            refine w_laldo (pc2 := 77) G 2 rfl H_v20 dX7_put_76 rfl ?_
            refine w_iload_n (pc2 := 78) G 2 rfl dX7_put_77 rfl rfl ?_
            obtain ⟨x21, H_x21, h⟩ := bs h
            refine w_cS0 (pc2 := 81) (As := [.int l2]) (rest := [.long v20, .int l1, .ref (a (o + 2))]) G koX7_91 (r_X7_bit H_x21) (Nat.le_of_ble_eq_true rfl) rfl rfl (Nat.le_of_ble_eq_true rfl) ⟨Nat.zero_le _, Nat.zero_le _⟩ dX7_put_78 rfl rfl ?_
            refine w_lor (pc2 := 82) G dX7_put_81 rfl ?_
            refine w_goto (tgt := 103) G dX7_put_82 (by decide) ?_
            obtain ⟨f22, H_f22, h⟩ := bs h
            refine w_lasto (pc2 := 104) (ws2 := (wX7 E a o f22 c_now_seed c_drawn_keys c_drawn_seed c_pad_signs c_pad_count c_sights_count c_sights_seeds c_img0_kept c_img0_world_keys c_img0_world_seed c_img0_sights_count c_img0_sights_seeds c_img1_kept c_img1_world_keys c_img1_world_seed c_img1_sights_count c_img1_sights_seeds c_trial_act_kind c_trial_act_set c_trial_act_key c_trial_act_other c_trial_tb_left c_trial_tb_right c_trial_tb_parent c_trial_tb_span c_trial_tb_root c_trial_tb_digest c_trial_tb_height c_trial_tb_priority c_trial_tb_pricedBy c_trial_tb_open c_trial_ta_left c_trial_ta_right c_trial_ta_parent c_trial_ta_span c_trial_ta_root c_trial_ta_digest c_trial_ta_height c_trial_ta_priority c_trial_ta_pricedBy c_trial_ta_open c_trial_after_keys c_trial_after_seed c_trial_before_keys c_trial_before_seed c_trial_acts c_trial_whyNot c_trial_work c_trial_alikeAct c_trial_alikePair)) G 2 rfl H_f22 rfl dX7_put_103 rfl ?_
            refine w_aload_n (pc2 := 105) G 0 rfl dX7_put_104 rfl rfl ?_
            refine w_get (pc2 := 108) G foX7_10 0 rfl rfl dX7_put_105 rfl ?_
            refine w_get (pc2 := 111) G foX7_79 1 rfl rfl dX7_put_108 rfl ?_
            refine w_iload_n (pc2 := 112) G 1 rfl dX7_put_111 rfl rfl ?_
            obtain ⟨v23, H_v23, h⟩ := bs h
            refine w_laldo (pc2 := 113) G 2 rfl H_v23 dX7_put_112 rfl ?_
            obtain ⟨x24, H_x24, h⟩ := bs h
            refine w_cS0 (pc2 := 116) (As := [.long v23]) (rest := []) G koX7_87 (r_X7_count H_x24) (Nat.le_of_ble_eq_true rfl) rfl rfl (Nat.le_of_ble_eq_true rfl) ⟨Nat.zero_le _, Nat.zero_le _⟩ dX7_put_113 rfl rfl ?_
            cases h
            exact w_iret G hQ rfl ⟨rfl, rfl⟩ dX7_put_116
        · replace h := (if_pos cc).symm.trans h
          refine w_aload_n (pc2 := 37) G 0 rfl dX7_put_36 rfl rfl ?_
          refine w_get (pc2 := 40) G foX7_10 0 rfl rfl dX7_put_37 rfl ?_
          refine w_get (pc2 := 43) G foX7_79 1 rfl rfl dX7_put_40 rfl ?_
          refine w_iload_n (pc2 := 44) G 1 rfl dX7_put_43 rfl rfl ?_
          obtain ⟨v25, H_v25, h⟩ := bs h
          refine w_laldo (pc2 := 45) G 2 rfl H_v25 dX7_put_44 rfl ?_
          obtain ⟨x26, H_x26, h⟩ := bs h
          refine w_cS0 (pc2 := 48) (As := [.long v25]) (rest := []) G koX7_87 (r_X7_count H_x26) (Nat.le_of_ble_eq_true rfl) rfl rfl (Nat.le_of_ble_eq_true rfl) ⟨Nat.zero_le _, Nat.zero_le _⟩ dX7_put_45 rfl rfl ?_
          refine w_bipush (pc2 := 50) G dX7_put_48 k_bipush_40 rfl ?_
          refine w_icmp_lt (tgt := 56) (pc2 := 53) G dX7_put_50 (by decide) rfl (fun cc => ?_) (fun cc => ?_)
          · replace h := (if_pos cc).symm.trans h
            refine w_aload_n (pc2 := 57) G 0 rfl dX7_put_56 rfl rfl ?_
            refine w_get (pc2 := 60) G foX7_10 0 rfl rfl dX7_put_57 rfl ?_
            refine w_get (pc2 := 63) G foX7_79 1 rfl rfl dX7_put_60 rfl ?_
            refine w_iload_n (pc2 := 64) G 1 rfl dX7_put_63 rfl rfl ?_
            refine w_iload_n (pc2 := 65) G 3 rfl dX7_put_64 rfl rfl ?_
            refine w_if_eq (tgt := 85) (pc2 := 68) G dX7_put_65 (by decide) rfl (fun cc => ?_) (fun cc => ?_)
            · replace h := (if_pos cc).symm.trans h
              refine w_aload_n (pc2 := 86) G 0 rfl dX7_put_85 rfl rfl ?_
              refine w_get (pc2 := 89) G foX7_10 0 rfl rfl dX7_put_86 rfl ?_
              refine w_get (pc2 := 92) G foX7_79 1 rfl rfl dX7_put_89 rfl ?_
              refine w_iload_n (pc2 := 93) G 1 rfl dX7_put_92 rfl rfl ?_
              obtain ⟨v27, H_v27, h⟩ := bs h
              refine w_laldo (pc2 := 94) G 2 rfl H_v27 dX7_put_93 rfl ?_
              refine w_iload_n (pc2 := 95) G 2 rfl dX7_put_94 rfl rfl ?_
              obtain ⟨x28, H_x28, h⟩ := bs h
              refine w_cS0 (pc2 := 98) (As := [.int l2]) (rest := [.long v27, .int l1, .ref (a (o + 2))]) G koX7_91 (r_X7_bit H_x28) (Nat.le_of_ble_eq_true rfl) rfl rfl (Nat.le_of_ble_eq_true rfl) ⟨Nat.zero_le _, Nat.zero_le _⟩ dX7_put_95 rfl rfl ?_
              refine w_ldc2 (pc2 := 101) G wd_108 dX7_put_98 rfl ?_
              refine w_lxor (pc2 := 102) G dX7_put_101 rfl ?_
              refine w_land (pc2 := 103) G dX7_put_102 rfl ?_
              obtain ⟨f29, H_f29, h⟩ := bs h
              refine w_lasto (pc2 := 104) (ws2 := (wX7 E a o f29 c_now_seed c_drawn_keys c_drawn_seed c_pad_signs c_pad_count c_sights_count c_sights_seeds c_img0_kept c_img0_world_keys c_img0_world_seed c_img0_sights_count c_img0_sights_seeds c_img1_kept c_img1_world_keys c_img1_world_seed c_img1_sights_count c_img1_sights_seeds c_trial_act_kind c_trial_act_set c_trial_act_key c_trial_act_other c_trial_tb_left c_trial_tb_right c_trial_tb_parent c_trial_tb_span c_trial_tb_root c_trial_tb_digest c_trial_tb_height c_trial_tb_priority c_trial_tb_pricedBy c_trial_tb_open c_trial_ta_left c_trial_ta_right c_trial_ta_parent c_trial_ta_span c_trial_ta_root c_trial_ta_digest c_trial_ta_height c_trial_ta_priority c_trial_ta_pricedBy c_trial_ta_open c_trial_after_keys c_trial_after_seed c_trial_before_keys c_trial_before_seed c_trial_acts c_trial_whyNot c_trial_work c_trial_alikeAct c_trial_alikePair)) G 2 rfl H_f29 rfl dX7_put_103 rfl ?_
              refine w_aload_n (pc2 := 105) G 0 rfl dX7_put_104 rfl rfl ?_
              refine w_get (pc2 := 108) G foX7_10 0 rfl rfl dX7_put_105 rfl ?_
              refine w_get (pc2 := 111) G foX7_79 1 rfl rfl dX7_put_108 rfl ?_
              refine w_iload_n (pc2 := 112) G 1 rfl dX7_put_111 rfl rfl ?_
              obtain ⟨v30, H_v30, h⟩ := bs h
              refine w_laldo (pc2 := 113) G 2 rfl H_v30 dX7_put_112 rfl ?_
              obtain ⟨x31, H_x31, h⟩ := bs h
              refine w_cS0 (pc2 := 116) (As := [.long v30]) (rest := []) G koX7_87 (r_X7_count H_x31) (Nat.le_of_ble_eq_true rfl) rfl rfl (Nat.le_of_ble_eq_true rfl) ⟨Nat.zero_le _, Nat.zero_le _⟩ dX7_put_113 rfl rfl ?_
              cases h
              exact w_iret G hQ rfl ⟨rfl, rfl⟩ dX7_put_116
            · replace h := (if_neg cc).symm.trans h
              refine w_aload_n (pc2 := 69) G 0 rfl dX7_put_68 rfl rfl ?_
              refine w_get (pc2 := 72) G foX7_10 0 rfl rfl dX7_put_69 rfl ?_
              refine w_get (pc2 := 75) G foX7_79 1 rfl rfl dX7_put_72 rfl ?_
              refine w_iload_n (pc2 := 76) G 1 rfl dX7_put_75 rfl rfl ?_
              obtain ⟨v32, H_v32, h⟩ := bs h
              refine w_laldo (pc2 := 77) G 2 rfl H_v32 dX7_put_76 rfl ?_
              refine w_iload_n (pc2 := 78) G 2 rfl dX7_put_77 rfl rfl ?_
              obtain ⟨x33, H_x33, h⟩ := bs h
              refine w_cS0 (pc2 := 81) (As := [.int l2]) (rest := [.long v32, .int l1, .ref (a (o + 2))]) G koX7_91 (r_X7_bit H_x33) (Nat.le_of_ble_eq_true rfl) rfl rfl (Nat.le_of_ble_eq_true rfl) ⟨Nat.zero_le _, Nat.zero_le _⟩ dX7_put_78 rfl rfl ?_
              refine w_lor (pc2 := 82) G dX7_put_81 rfl ?_
              refine w_goto (tgt := 103) G dX7_put_82 (by decide) ?_
              obtain ⟨f34, H_f34, h⟩ := bs h
              refine w_lasto (pc2 := 104) (ws2 := (wX7 E a o f34 c_now_seed c_drawn_keys c_drawn_seed c_pad_signs c_pad_count c_sights_count c_sights_seeds c_img0_kept c_img0_world_keys c_img0_world_seed c_img0_sights_count c_img0_sights_seeds c_img1_kept c_img1_world_keys c_img1_world_seed c_img1_sights_count c_img1_sights_seeds c_trial_act_kind c_trial_act_set c_trial_act_key c_trial_act_other c_trial_tb_left c_trial_tb_right c_trial_tb_parent c_trial_tb_span c_trial_tb_root c_trial_tb_digest c_trial_tb_height c_trial_tb_priority c_trial_tb_pricedBy c_trial_tb_open c_trial_ta_left c_trial_ta_right c_trial_ta_parent c_trial_ta_span c_trial_ta_root c_trial_ta_digest c_trial_ta_height c_trial_ta_priority c_trial_ta_pricedBy c_trial_ta_open c_trial_after_keys c_trial_after_seed c_trial_before_keys c_trial_before_seed c_trial_acts c_trial_whyNot c_trial_work c_trial_alikeAct c_trial_alikePair)) G 2 rfl H_f34 rfl dX7_put_103 rfl ?_
              refine w_aload_n (pc2 := 105) G 0 rfl dX7_put_104 rfl rfl ?_
              refine w_get (pc2 := 108) G foX7_10 0 rfl rfl dX7_put_105 rfl ?_
              refine w_get (pc2 := 111) G foX7_79 1 rfl rfl dX7_put_108 rfl ?_
              refine w_iload_n (pc2 := 112) G 1 rfl dX7_put_111 rfl rfl ?_
              obtain ⟨v35, H_v35, h⟩ := bs h
              refine w_laldo (pc2 := 113) G 2 rfl H_v35 dX7_put_112 rfl ?_
              obtain ⟨x36, H_x36, h⟩ := bs h
              refine w_cS0 (pc2 := 116) (As := [.long v35]) (rest := []) G koX7_87 (r_X7_count H_x36) (Nat.le_of_ble_eq_true rfl) rfl rfl (Nat.le_of_ble_eq_true rfl) ⟨Nat.zero_le _, Nat.zero_le _⟩ dX7_put_113 rfl rfl ?_
              cases h
              exact w_iret G hQ rfl ⟨rfl, rfl⟩ dX7_put_116
          · replace h := (if_neg cc).symm.trans h
            refine w_bipush (pc2 := 55) G dX7_put_53 k_bipush_m4 rfl ?_
            cases h
            exact w_iret G hQ rfl ⟨rfl, rfl⟩ dX7_put_55
    · replace h := (if_pos cc).symm.trans h
      refine w_iconst (pc2 := 15) G dX7_put_14 k_iconst_m1 rfl ?_
      cases h
      exact w_iret G hQ rfl ⟨rfl, rfl⟩ dX7_put_15

set_option maxHeartbeats 4000000 in
set_option maxRecDepth 100000 in
theorem r_X7_say {l : Launch} {E : EV} {a : Nat → Nat} {o : Nat} {c_now_keys : Nat → Int64} {c_now_seed : Int32} {c_drawn_keys : Nat → Int64} {c_drawn_seed : Int32} {c_pad_signs : Nat → Int32} {c_pad_count c_sights_count : Int32} {c_sights_seeds : Nat → Int64} {c_img0_kept : Int32} {c_img0_world_keys : Nat → Int64} {c_img0_world_seed c_img0_sights_count : Int32} {c_img0_sights_seeds : Nat → Int64} {c_img1_kept : Int32} {c_img1_world_keys : Nat → Int64} {c_img1_world_seed c_img1_sights_count : Int32} {c_img1_sights_seeds : Nat → Int64} {c_trial_act_kind c_trial_act_set c_trial_act_key c_trial_act_other : Int32} {c_trial_tb_left c_trial_tb_right c_trial_tb_parent : Nat → Int32} {c_trial_tb_span : Nat → Int64} {c_trial_tb_root : Int32} {c_trial_tb_digest c_trial_tb_height c_trial_tb_priority : Nat → Int32} {c_trial_tb_pricedBy : Int32} {c_trial_tb_open c_trial_ta_left c_trial_ta_right c_trial_ta_parent : Nat → Int32} {c_trial_ta_span : Nat → Int64} {c_trial_ta_root : Int32} {c_trial_ta_digest c_trial_ta_height c_trial_ta_priority : Nat → Int32} {c_trial_ta_pricedBy : Int32} {c_trial_ta_open : Nat → Int32} {c_trial_after_keys : Nat → Int64} {c_trial_after_seed : Int32} {c_trial_before_keys : Nat → Int64} {c_trial_before_seed c_trial_acts c_trial_whyNot c_trial_work c_trial_alikeAct c_trial_alikePair : Int32} {l1 : Int32} {R : Int32 × (Nat → Int32) × Int32} (h : f_X7_say c_pad_signs c_pad_count l1 = some R) : Ret1 l E yX7_say cX7_say 2 (some .int) 1 (wX7 E a o c_now_keys c_now_seed c_drawn_keys c_drawn_seed c_pad_signs c_pad_count c_sights_count c_sights_seeds c_img0_kept c_img0_world_keys c_img0_world_seed c_img0_sights_count c_img0_sights_seeds c_img1_kept c_img1_world_keys c_img1_world_seed c_img1_sights_count c_img1_sights_seeds c_trial_act_kind c_trial_act_set c_trial_act_key c_trial_act_other c_trial_tb_left c_trial_tb_right c_trial_tb_parent c_trial_tb_span c_trial_tb_root c_trial_tb_digest c_trial_tb_height c_trial_tb_priority c_trial_tb_pricedBy c_trial_tb_open c_trial_ta_left c_trial_ta_right c_trial_ta_parent c_trial_ta_span c_trial_ta_root c_trial_ta_digest c_trial_ta_height c_trial_ta_priority c_trial_ta_pricedBy c_trial_ta_open c_trial_after_keys c_trial_after_seed c_trial_before_keys c_trial_before_seed c_trial_acts c_trial_whyNot c_trial_work c_trial_alikeAct c_trial_alikePair) [.ref (a o), .int l1] (some (.int R.1)) (wX7 E a o c_now_keys c_now_seed c_drawn_keys c_drawn_seed R.2.1 R.2.2 c_sights_count c_sights_seeds c_img0_kept c_img0_world_keys c_img0_world_seed c_img0_sights_count c_img0_sights_seeds c_img1_kept c_img1_world_keys c_img1_world_seed c_img1_sights_count c_img1_sights_seeds c_trial_act_kind c_trial_act_set c_trial_act_key c_trial_act_other c_trial_tb_left c_trial_tb_right c_trial_tb_parent c_trial_tb_span c_trial_tb_root c_trial_tb_digest c_trial_tb_height c_trial_tb_priority c_trial_tb_pricedBy c_trial_tb_open c_trial_ta_left c_trial_ta_right c_trial_ta_parent c_trial_ta_span c_trial_ta_root c_trial_ta_digest c_trial_ta_height c_trial_ta_priority c_trial_ta_pricedBy c_trial_ta_open c_trial_after_keys c_trial_after_seed c_trial_before_keys c_trial_before_seed c_trial_acts c_trial_whyNot c_trial_work c_trial_alikeAct c_trial_alikePair) := by
  refine Ret.intro (lv := [(0, .ref (a o)), (1, .int l1)]) (by decide) (Nat.le_of_ble_eq_true rfl) rfl ?_
  intro g hgl G hQ
  subst hgl
  rw [f_X7_say] at h
  refine w_iload_n (pc2 := 1) G 1 rfl dX7_say_0 rfl rfl ?_
  refine w_bipush (pc2 := 3) G dX7_say_1 k_bipush_33 rfl ?_
  refine w_icmp_lt (tgt := 12) (pc2 := 6) G dX7_say_3 (by decide) rfl (fun cc => ?_) (fun cc => ?_)
  · replace h := (if_pos cc).symm.trans h
    refine w_bipush (pc2 := 14) G dX7_say_12 k_bipush_m2 rfl ?_
    cases h
    exact w_iret G hQ rfl ⟨rfl, rfl⟩ dX7_say_14
  · replace h := (if_neg cc).symm.trans h
    refine w_iload_n (pc2 := 7) G 1 rfl dX7_say_6 rfl rfl ?_
    refine w_bipush (pc2 := 9) G dX7_say_7 k_bipush_126 rfl ?_
    refine w_icmp_le (tgt := 15) (pc2 := 12) G dX7_say_9 (by decide) rfl (fun cc => ?_) (fun cc => ?_)
    · replace h := (if_pos cc).symm.trans h
      refine w_aload_n (pc2 := 16) G 0 rfl dX7_say_15 rfl rfl ?_
      refine w_get (pc2 := 19) G foX7_22 0 rfl rfl dX7_say_16 rfl ?_
      refine w_iload_n (pc2 := 20) G 1 rfl dX7_say_19 rfl rfl ?_
      obtain ⟨x1, H_x1, h⟩ := bs h
      refine w_cV1 (pc2 := 23) (ws2 := (wX7 E a o c_now_keys c_now_seed c_drawn_keys c_drawn_seed x1.2.1 x1.2.2 c_sights_count c_sights_seeds c_img0_kept c_img0_world_keys c_img0_world_seed c_img0_sights_count c_img0_sights_seeds c_img1_kept c_img1_world_keys c_img1_world_seed c_img1_sights_count c_img1_sights_seeds c_trial_act_kind c_trial_act_set c_trial_act_key c_trial_act_other c_trial_tb_left c_trial_tb_right c_trial_tb_parent c_trial_tb_span c_trial_tb_root c_trial_tb_digest c_trial_tb_height c_trial_tb_priority c_trial_tb_pricedBy c_trial_tb_open c_trial_ta_left c_trial_ta_right c_trial_ta_parent c_trial_ta_span c_trial_ta_root c_trial_ta_digest c_trial_ta_height c_trial_ta_priority c_trial_ta_pricedBy c_trial_ta_open c_trial_after_keys c_trial_after_seed c_trial_before_keys c_trial_before_seed c_trial_acts c_trial_whyNot c_trial_work c_trial_alikeAct c_trial_alikePair)) (As := [.int l1]) (rest := []) G koX7_97 (r_X2_write (o := (o + 5)) H_x1) (Nat.le_of_ble_eq_true rfl) 2 rfl rfl [5, 6] [0, 1, 2, 3, 4, 7, 8, 9, 10, 11, 12, 13, 14, 15, 16, 17, 18, 19, 20, 21, 22, 23, 24, 25, 26, 27, 28, 29, 30, 31, 32, 33, 34, 35, 36, 37, 38, 39, 40, 41, 42, 43] [0, 1, 2, 3, 4, 42, 43, 5, 6, 7, 8, 9, 10, 11, 12, 13, 14, 15, 16, 17, 18, 19, 20, 21, 22, 23, 24, 25, 26, 27, 28, 29, 30, 31, 32, 33, 34, 35, 36, 37, 38, 39, 40, 41] rfl rfl rfl rfl rfl rfl rfl rfl rfl (Nat.le_of_ble_eq_true rfl) ⟨Nat.zero_le _, Nat.zero_le _⟩ dX7_say_20 rfl rfl ?_
      refine w_if_eq (tgt := 36) (pc2 := 26) G dX7_say_23 (by decide) rfl (fun cc => ?_) (fun cc => ?_)
      · replace h := (if_pos cc).symm.trans h
        refine w_bipush (pc2 := 38) G dX7_say_36 k_bipush_m4 rfl ?_
        cases h
        exact w_iret G hQ rfl ⟨rfl, rfl⟩ dX7_say_38
      · replace h := (if_neg cc).symm.trans h
        refine w_aload_n (pc2 := 27) G 0 rfl dX7_say_26 rfl rfl ?_
        refine w_get (pc2 := 30) G foX7_22 0 rfl rfl dX7_say_27 rfl ?_
        refine w_get (pc2 := 33) G foX7_100 5 rfl rfl dX7_say_30 rfl ?_
        refine w_goto (tgt := 38) G dX7_say_33 (by decide) ?_
        cases h
        exact w_iret G hQ rfl ⟨rfl, rfl⟩ dX7_say_38
    · replace h := (if_neg cc).symm.trans h
      refine w_bipush (pc2 := 14) G dX7_say_12 k_bipush_m2 rfl ?_
      cases h
      exact w_iret G hQ rfl ⟨rfl, rfl⟩ dX7_say_14

set_option maxHeartbeats 4000000 in
set_option maxRecDepth 100000 in
theorem r_X7_wipe {l : Launch} {E : EV} {a : Nat → Nat} {o : Nat} {c_now_keys : Nat → Int64} {c_now_seed : Int32} {c_drawn_keys : Nat → Int64} {c_drawn_seed : Int32} {c_pad_signs : Nat → Int32} {c_pad_count c_sights_count : Int32} {c_sights_seeds : Nat → Int64} {c_img0_kept : Int32} {c_img0_world_keys : Nat → Int64} {c_img0_world_seed c_img0_sights_count : Int32} {c_img0_sights_seeds : Nat → Int64} {c_img1_kept : Int32} {c_img1_world_keys : Nat → Int64} {c_img1_world_seed c_img1_sights_count : Int32} {c_img1_sights_seeds : Nat → Int64} {c_trial_act_kind c_trial_act_set c_trial_act_key c_trial_act_other : Int32} {c_trial_tb_left c_trial_tb_right c_trial_tb_parent : Nat → Int32} {c_trial_tb_span : Nat → Int64} {c_trial_tb_root : Int32} {c_trial_tb_digest c_trial_tb_height c_trial_tb_priority : Nat → Int32} {c_trial_tb_pricedBy : Int32} {c_trial_tb_open c_trial_ta_left c_trial_ta_right c_trial_ta_parent : Nat → Int32} {c_trial_ta_span : Nat → Int64} {c_trial_ta_root : Int32} {c_trial_ta_digest c_trial_ta_height c_trial_ta_priority : Nat → Int32} {c_trial_ta_pricedBy : Int32} {c_trial_ta_open : Nat → Int32} {c_trial_after_keys : Nat → Int64} {c_trial_after_seed : Int32} {c_trial_before_keys : Nat → Int64} {c_trial_before_seed c_trial_acts c_trial_whyNot c_trial_work c_trial_alikeAct c_trial_alikePair : Int32}  {R : Int32 × Int32} (h : f_X7_wipe c_pad_count = some R) : Ret1 l E yX7_wipe cX7_wipe 2 (some .int) 1 (wX7 E a o c_now_keys c_now_seed c_drawn_keys c_drawn_seed c_pad_signs c_pad_count c_sights_count c_sights_seeds c_img0_kept c_img0_world_keys c_img0_world_seed c_img0_sights_count c_img0_sights_seeds c_img1_kept c_img1_world_keys c_img1_world_seed c_img1_sights_count c_img1_sights_seeds c_trial_act_kind c_trial_act_set c_trial_act_key c_trial_act_other c_trial_tb_left c_trial_tb_right c_trial_tb_parent c_trial_tb_span c_trial_tb_root c_trial_tb_digest c_trial_tb_height c_trial_tb_priority c_trial_tb_pricedBy c_trial_tb_open c_trial_ta_left c_trial_ta_right c_trial_ta_parent c_trial_ta_span c_trial_ta_root c_trial_ta_digest c_trial_ta_height c_trial_ta_priority c_trial_ta_pricedBy c_trial_ta_open c_trial_after_keys c_trial_after_seed c_trial_before_keys c_trial_before_seed c_trial_acts c_trial_whyNot c_trial_work c_trial_alikeAct c_trial_alikePair) [.ref (a o)] (some (.int R.1)) (wX7 E a o c_now_keys c_now_seed c_drawn_keys c_drawn_seed c_pad_signs R.2 c_sights_count c_sights_seeds c_img0_kept c_img0_world_keys c_img0_world_seed c_img0_sights_count c_img0_sights_seeds c_img1_kept c_img1_world_keys c_img1_world_seed c_img1_sights_count c_img1_sights_seeds c_trial_act_kind c_trial_act_set c_trial_act_key c_trial_act_other c_trial_tb_left c_trial_tb_right c_trial_tb_parent c_trial_tb_span c_trial_tb_root c_trial_tb_digest c_trial_tb_height c_trial_tb_priority c_trial_tb_pricedBy c_trial_tb_open c_trial_ta_left c_trial_ta_right c_trial_ta_parent c_trial_ta_span c_trial_ta_root c_trial_ta_digest c_trial_ta_height c_trial_ta_priority c_trial_ta_pricedBy c_trial_ta_open c_trial_after_keys c_trial_after_seed c_trial_before_keys c_trial_before_seed c_trial_acts c_trial_whyNot c_trial_work c_trial_alikeAct c_trial_alikePair) := by
  refine Ret.intro (lv := [(0, .ref (a o))]) (by decide) (Nat.le_of_ble_eq_true rfl) rfl ?_
  intro g hgl G hQ
  subst hgl
  rw [f_X7_wipe] at h
  refine w_aload_n (pc2 := 1) G 0 rfl dX7_wipe_0 rfl rfl ?_
  refine w_get (pc2 := 4) G foX7_22 0 rfl rfl dX7_wipe_1 rfl ?_
  refine w_get (pc2 := 7) G foX7_100 5 rfl rfl dX7_wipe_4 rfl ?_
  refine w_istore_n (pc2 := 8) (lv2 := [(1, .int c_pad_count), (0, .ref (a o))]) G dX7_wipe_7 rfl (Nat.le_of_ble_eq_true rfl) rfl rfl ?_
  refine w_aload_n (pc2 := 9) G 1 rfl dX7_wipe_8 rfl rfl ?_
  refine w_get (pc2 := 12) G foX7_22 0 rfl rfl dX7_wipe_9 rfl ?_
  obtain ⟨x1, H_x1, h⟩ := bs h
  refine w_cV1 (pc2 := 15) (ws2 := (wX7 E a o c_now_keys c_now_seed c_drawn_keys c_drawn_seed c_pad_signs x1 c_sights_count c_sights_seeds c_img0_kept c_img0_world_keys c_img0_world_seed c_img0_sights_count c_img0_sights_seeds c_img1_kept c_img1_world_keys c_img1_world_seed c_img1_sights_count c_img1_sights_seeds c_trial_act_kind c_trial_act_set c_trial_act_key c_trial_act_other c_trial_tb_left c_trial_tb_right c_trial_tb_parent c_trial_tb_span c_trial_tb_root c_trial_tb_digest c_trial_tb_height c_trial_tb_priority c_trial_tb_pricedBy c_trial_tb_open c_trial_ta_left c_trial_ta_right c_trial_ta_parent c_trial_ta_span c_trial_ta_root c_trial_ta_digest c_trial_ta_height c_trial_ta_priority c_trial_ta_pricedBy c_trial_ta_open c_trial_after_keys c_trial_after_seed c_trial_before_keys c_trial_before_seed c_trial_acts c_trial_whyNot c_trial_work c_trial_alikeAct c_trial_alikePair)) (As := []) (rest := []) G koX7_102 (r_X2_clear (o := (o + 5)) H_x1) (Nat.le_of_ble_eq_true rfl) 2 rfl rfl [5, 6] [0, 1, 2, 3, 4, 7, 8, 9, 10, 11, 12, 13, 14, 15, 16, 17, 18, 19, 20, 21, 22, 23, 24, 25, 26, 27, 28, 29, 30, 31, 32, 33, 34, 35, 36, 37, 38, 39, 40, 41, 42, 43] [0, 1, 2, 3, 4, 42, 43, 5, 6, 7, 8, 9, 10, 11, 12, 13, 14, 15, 16, 17, 18, 19, 20, 21, 22, 23, 24, 25, 26, 27, 28, 29, 30, 31, 32, 33, 34, 35, 36, 37, 38, 39, 40, 41] rfl rfl rfl rfl rfl rfl rfl rfl rfl (Nat.le_of_ble_eq_true rfl) ⟨Nat.zero_le _, Nat.zero_le _⟩ dX7_wipe_12 rfl rfl ?_
  refine w_iload_n (pc2 := 16) G 0 rfl dX7_wipe_15 rfl rfl ?_
  cases h
  exact w_iret G hQ rfl ⟨rfl, rfl⟩ dX7_wipe_16

set_option maxHeartbeats 4000000 in
set_option maxRecDepth 100000 in
theorem r_X7_fault {l : Launch} {E : EV} {a : Nat → Nat} {o : Nat} {c_now_keys : Nat → Int64} {c_now_seed : Int32} {c_drawn_keys : Nat → Int64} {c_drawn_seed : Int32} {c_pad_signs : Nat → Int32} {c_pad_count c_sights_count : Int32} {c_sights_seeds : Nat → Int64} {c_img0_kept : Int32} {c_img0_world_keys : Nat → Int64} {c_img0_world_seed c_img0_sights_count : Int32} {c_img0_sights_seeds : Nat → Int64} {c_img1_kept : Int32} {c_img1_world_keys : Nat → Int64} {c_img1_world_seed c_img1_sights_count : Int32} {c_img1_sights_seeds : Nat → Int64} {c_trial_act_kind c_trial_act_set c_trial_act_key c_trial_act_other : Int32} {c_trial_tb_left c_trial_tb_right c_trial_tb_parent : Nat → Int32} {c_trial_tb_span : Nat → Int64} {c_trial_tb_root : Int32} {c_trial_tb_digest c_trial_tb_height c_trial_tb_priority : Nat → Int32} {c_trial_tb_pricedBy : Int32} {c_trial_tb_open c_trial_ta_left c_trial_ta_right c_trial_ta_parent : Nat → Int32} {c_trial_ta_span : Nat → Int64} {c_trial_ta_root : Int32} {c_trial_ta_digest c_trial_ta_height c_trial_ta_priority : Nat → Int32} {c_trial_ta_pricedBy : Int32} {c_trial_ta_open : Nat → Int32} {c_trial_after_keys : Nat → Int64} {c_trial_after_seed : Int32} {c_trial_before_keys : Nat → Int64} {c_trial_before_seed c_trial_acts c_trial_whyNot c_trial_work c_trial_alikeAct c_trial_alikePair : Int32}  {R : Int32} (h : f_X7_fault c_pad_signs c_pad_count = some R) : Ret1 l E yX7_fault cX7_fault 1 (some .int) 4 (wX7 E a o c_now_keys c_now_seed c_drawn_keys c_drawn_seed c_pad_signs c_pad_count c_sights_count c_sights_seeds c_img0_kept c_img0_world_keys c_img0_world_seed c_img0_sights_count c_img0_sights_seeds c_img1_kept c_img1_world_keys c_img1_world_seed c_img1_sights_count c_img1_sights_seeds c_trial_act_kind c_trial_act_set c_trial_act_key c_trial_act_other c_trial_tb_left c_trial_tb_right c_trial_tb_parent c_trial_tb_span c_trial_tb_root c_trial_tb_digest c_trial_tb_height c_trial_tb_priority c_trial_tb_pricedBy c_trial_tb_open c_trial_ta_left c_trial_ta_right c_trial_ta_parent c_trial_ta_span c_trial_ta_root c_trial_ta_digest c_trial_ta_height c_trial_ta_priority c_trial_ta_pricedBy c_trial_ta_open c_trial_after_keys c_trial_after_seed c_trial_before_keys c_trial_before_seed c_trial_acts c_trial_whyNot c_trial_work c_trial_alikeAct c_trial_alikePair) [.ref (a o)] (some (.int R)) (wX7 E a o c_now_keys c_now_seed c_drawn_keys c_drawn_seed c_pad_signs c_pad_count c_sights_count c_sights_seeds c_img0_kept c_img0_world_keys c_img0_world_seed c_img0_sights_count c_img0_sights_seeds c_img1_kept c_img1_world_keys c_img1_world_seed c_img1_sights_count c_img1_sights_seeds c_trial_act_kind c_trial_act_set c_trial_act_key c_trial_act_other c_trial_tb_left c_trial_tb_right c_trial_tb_parent c_trial_tb_span c_trial_tb_root c_trial_tb_digest c_trial_tb_height c_trial_tb_priority c_trial_tb_pricedBy c_trial_tb_open c_trial_ta_left c_trial_ta_right c_trial_ta_parent c_trial_ta_span c_trial_ta_root c_trial_ta_digest c_trial_ta_height c_trial_ta_priority c_trial_ta_pricedBy c_trial_ta_open c_trial_after_keys c_trial_after_seed c_trial_before_keys c_trial_before_seed c_trial_acts c_trial_whyNot c_trial_work c_trial_alikeAct c_trial_alikePair) := by
  refine Ret.intro (lv := [(0, .ref (a o))]) (by decide) (Nat.le_of_ble_eq_true rfl) rfl ?_
  intro g hgl G hQ
  subst hgl
  rw [f_X7_fault] at h
  refine w_aload_n (pc2 := 1) G 0 rfl dX7_fault_0 rfl rfl ?_
  refine w_get (pc2 := 4) G foX7_22 0 rfl rfl dX7_fault_1 rfl ?_
  obtain ⟨x1, H_x1, h⟩ := bs h
  refine w_cV1 (pc2 := 7) (ws2 := (wX7 E a o c_now_keys c_now_seed c_drawn_keys c_drawn_seed c_pad_signs c_pad_count c_sights_count c_sights_seeds c_img0_kept c_img0_world_keys c_img0_world_seed c_img0_sights_count c_img0_sights_seeds c_img1_kept c_img1_world_keys c_img1_world_seed c_img1_sights_count c_img1_sights_seeds c_trial_act_kind c_trial_act_set c_trial_act_key c_trial_act_other c_trial_tb_left c_trial_tb_right c_trial_tb_parent c_trial_tb_span c_trial_tb_root c_trial_tb_digest c_trial_tb_height c_trial_tb_priority c_trial_tb_pricedBy c_trial_tb_open c_trial_ta_left c_trial_ta_right c_trial_ta_parent c_trial_ta_span c_trial_ta_root c_trial_ta_digest c_trial_ta_height c_trial_ta_priority c_trial_ta_pricedBy c_trial_ta_open c_trial_after_keys c_trial_after_seed c_trial_before_keys c_trial_before_seed c_trial_acts c_trial_whyNot c_trial_work c_trial_alikeAct c_trial_alikePair)) (As := []) (rest := []) G koX7_105 (r_X2_firstFault (o := (o + 5)) H_x1) (Nat.le_of_ble_eq_true rfl) 2 rfl rfl [5, 6] [0, 1, 2, 3, 4, 7, 8, 9, 10, 11, 12, 13, 14, 15, 16, 17, 18, 19, 20, 21, 22, 23, 24, 25, 26, 27, 28, 29, 30, 31, 32, 33, 34, 35, 36, 37, 38, 39, 40, 41, 42, 43] [0, 1, 2, 3, 4, 42, 43, 5, 6, 7, 8, 9, 10, 11, 12, 13, 14, 15, 16, 17, 18, 19, 20, 21, 22, 23, 24, 25, 26, 27, 28, 29, 30, 31, 32, 33, 34, 35, 36, 37, 38, 39, 40, 41] rfl rfl rfl rfl rfl rfl rfl rfl rfl (Nat.le_of_ble_eq_true rfl) ⟨Nat.zero_le _, Nat.zero_le _⟩ dX7_fault_4 rfl rfl ?_
  cases h
  exact w_iret G hQ rfl ⟨rfl, rfl⟩ dX7_fault_7

set_option maxHeartbeats 4000000 in
set_option maxRecDepth 100000 in
theorem r_X7_tryActs {l : Launch} {E : EV} {a : Nat → Nat} {o : Nat} {c_now_keys : Nat → Int64} {c_now_seed : Int32} {c_drawn_keys : Nat → Int64} {c_drawn_seed : Int32} {c_pad_signs : Nat → Int32} {c_pad_count c_sights_count : Int32} {c_sights_seeds : Nat → Int64} {c_img0_kept : Int32} {c_img0_world_keys : Nat → Int64} {c_img0_world_seed c_img0_sights_count : Int32} {c_img0_sights_seeds : Nat → Int64} {c_img1_kept : Int32} {c_img1_world_keys : Nat → Int64} {c_img1_world_seed c_img1_sights_count : Int32} {c_img1_sights_seeds : Nat → Int64} {c_trial_act_kind c_trial_act_set c_trial_act_key c_trial_act_other : Int32} {c_trial_tb_left c_trial_tb_right c_trial_tb_parent : Nat → Int32} {c_trial_tb_span : Nat → Int64} {c_trial_tb_root : Int32} {c_trial_tb_digest c_trial_tb_height c_trial_tb_priority : Nat → Int32} {c_trial_tb_pricedBy : Int32} {c_trial_tb_open c_trial_ta_left c_trial_ta_right c_trial_ta_parent : Nat → Int32} {c_trial_ta_span : Nat → Int64} {c_trial_ta_root : Int32} {c_trial_ta_digest c_trial_ta_height c_trial_ta_priority : Nat → Int32} {c_trial_ta_pricedBy : Int32} {c_trial_ta_open : Nat → Int32} {c_trial_after_keys : Nat → Int64} {c_trial_after_seed : Int32} {c_trial_before_keys : Nat → Int64} {c_trial_before_seed c_trial_acts c_trial_whyNot c_trial_work c_trial_alikeAct c_trial_alikePair : Int32}  {R : Int32 × Int32 × Int32 × Int32 × Int32 × (Nat → Int32) × (Nat → Int32) × (Nat → Int32) × (Nat → Int64) × Int32 × (Nat → Int32) × (Nat → Int32) × (Nat → Int32) × Int32 × (Nat → Int32) × (Nat → Int32) × (Nat → Int32) × (Nat → Int32) × (Nat → Int64) × Int32 × (Nat → Int32) × (Nat → Int32) × (Nat → Int32) × Int32 × (Nat → Int32) × (Nat → Int64) × Int32 × (Nat → Int64) × Int32 × Int32 × Int32 × Int32 × Int32 × Int32} (h : f_X7_tryActs c_now_keys c_now_seed c_pad_signs c_pad_count c_trial_act_kind c_trial_act_set c_trial_act_key c_trial_act_other c_trial_tb_left c_trial_tb_right c_trial_tb_parent c_trial_tb_span c_trial_tb_root c_trial_tb_digest c_trial_tb_height c_trial_tb_priority c_trial_tb_pricedBy c_trial_tb_open c_trial_ta_left c_trial_ta_right c_trial_ta_parent c_trial_ta_span c_trial_ta_root c_trial_ta_digest c_trial_ta_height c_trial_ta_priority c_trial_ta_pricedBy c_trial_ta_open c_trial_after_keys c_trial_after_seed c_trial_before_keys c_trial_before_seed c_trial_acts c_trial_whyNot c_trial_work c_trial_alikeAct c_trial_alikePair = some R) : Ret1 l E yX7_tryActs cX7_tryActs 1 (some .int) 5 (wX7 E a o c_now_keys c_now_seed c_drawn_keys c_drawn_seed c_pad_signs c_pad_count c_sights_count c_sights_seeds c_img0_kept c_img0_world_keys c_img0_world_seed c_img0_sights_count c_img0_sights_seeds c_img1_kept c_img1_world_keys c_img1_world_seed c_img1_sights_count c_img1_sights_seeds c_trial_act_kind c_trial_act_set c_trial_act_key c_trial_act_other c_trial_tb_left c_trial_tb_right c_trial_tb_parent c_trial_tb_span c_trial_tb_root c_trial_tb_digest c_trial_tb_height c_trial_tb_priority c_trial_tb_pricedBy c_trial_tb_open c_trial_ta_left c_trial_ta_right c_trial_ta_parent c_trial_ta_span c_trial_ta_root c_trial_ta_digest c_trial_ta_height c_trial_ta_priority c_trial_ta_pricedBy c_trial_ta_open c_trial_after_keys c_trial_after_seed c_trial_before_keys c_trial_before_seed c_trial_acts c_trial_whyNot c_trial_work c_trial_alikeAct c_trial_alikePair) [.ref (a o)] (some (.int R.1)) (wX7 E a o c_now_keys c_now_seed c_drawn_keys c_drawn_seed c_pad_signs c_pad_count c_sights_count c_sights_seeds c_img0_kept c_img0_world_keys c_img0_world_seed c_img0_sights_count c_img0_sights_seeds c_img1_kept c_img1_world_keys c_img1_world_seed c_img1_sights_count c_img1_sights_seeds R.2.1 R.2.2.1 R.2.2.2.1 R.2.2.2.2.1 R.2.2.2.2.2.1 R.2.2.2.2.2.2.1 R.2.2.2.2.2.2.2.1 R.2.2.2.2.2.2.2.2.1 R.2.2.2.2.2.2.2.2.2.1 R.2.2.2.2.2.2.2.2.2.2.1 R.2.2.2.2.2.2.2.2.2.2.2.1 R.2.2.2.2.2.2.2.2.2.2.2.2.1 R.2.2.2.2.2.2.2.2.2.2.2.2.2.1 R.2.2.2.2.2.2.2.2.2.2.2.2.2.2.1 R.2.2.2.2.2.2.2.2.2.2.2.2.2.2.2.1 R.2.2.2.2.2.2.2.2.2.2.2.2.2.2.2.2.1 R.2.2.2.2.2.2.2.2.2.2.2.2.2.2.2.2.2.1 R.2.2.2.2.2.2.2.2.2.2.2.2.2.2.2.2.2.2.1 R.2.2.2.2.2.2.2.2.2.2.2.2.2.2.2.2.2.2.2.1 R.2.2.2.2.2.2.2.2.2.2.2.2.2.2.2.2.2.2.2.2.1 R.2.2.2.2.2.2.2.2.2.2.2.2.2.2.2.2.2.2.2.2.2.1 R.2.2.2.2.2.2.2.2.2.2.2.2.2.2.2.2.2.2.2.2.2.2.1 R.2.2.2.2.2.2.2.2.2.2.2.2.2.2.2.2.2.2.2.2.2.2.2.1 R.2.2.2.2.2.2.2.2.2.2.2.2.2.2.2.2.2.2.2.2.2.2.2.2.1 R.2.2.2.2.2.2.2.2.2.2.2.2.2.2.2.2.2.2.2.2.2.2.2.2.2.1 R.2.2.2.2.2.2.2.2.2.2.2.2.2.2.2.2.2.2.2.2.2.2.2.2.2.2.1 R.2.2.2.2.2.2.2.2.2.2.2.2.2.2.2.2.2.2.2.2.2.2.2.2.2.2.2.1 R.2.2.2.2.2.2.2.2.2.2.2.2.2.2.2.2.2.2.2.2.2.2.2.2.2.2.2.2.1 R.2.2.2.2.2.2.2.2.2.2.2.2.2.2.2.2.2.2.2.2.2.2.2.2.2.2.2.2.2.1 R.2.2.2.2.2.2.2.2.2.2.2.2.2.2.2.2.2.2.2.2.2.2.2.2.2.2.2.2.2.2.1 R.2.2.2.2.2.2.2.2.2.2.2.2.2.2.2.2.2.2.2.2.2.2.2.2.2.2.2.2.2.2.2.1 R.2.2.2.2.2.2.2.2.2.2.2.2.2.2.2.2.2.2.2.2.2.2.2.2.2.2.2.2.2.2.2.2.1 R.2.2.2.2.2.2.2.2.2.2.2.2.2.2.2.2.2.2.2.2.2.2.2.2.2.2.2.2.2.2.2.2.2) := by
  refine Ret.intro (lv := [(0, .ref (a o))]) (by decide) (Nat.le_of_ble_eq_true rfl) rfl ?_
  intro g hgl G hQ
  subst hgl
  rw [f_X7_tryActs] at h
  refine w_aload_n (pc2 := 1) G 0 rfl dX7_tryActs_0 rfl rfl ?_
  refine w_get (pc2 := 4) G foX7_22 0 rfl rfl dX7_tryActs_1 rfl ?_
  obtain ⟨x1, H_x1, h⟩ := bs h
  refine w_cV1 (pc2 := 7) (ws2 := (wX7 E a o c_now_keys c_now_seed c_drawn_keys c_drawn_seed c_pad_signs c_pad_count c_sights_count c_sights_seeds c_img0_kept c_img0_world_keys c_img0_world_seed c_img0_sights_count c_img0_sights_seeds c_img1_kept c_img1_world_keys c_img1_world_seed c_img1_sights_count c_img1_sights_seeds c_trial_act_kind c_trial_act_set c_trial_act_key c_trial_act_other c_trial_tb_left c_trial_tb_right c_trial_tb_parent c_trial_tb_span c_trial_tb_root c_trial_tb_digest c_trial_tb_height c_trial_tb_priority c_trial_tb_pricedBy c_trial_tb_open c_trial_ta_left c_trial_ta_right c_trial_ta_parent c_trial_ta_span c_trial_ta_root c_trial_ta_digest c_trial_ta_height c_trial_ta_priority c_trial_ta_pricedBy c_trial_ta_open c_trial_after_keys c_trial_after_seed c_trial_before_keys c_trial_before_seed c_trial_acts c_trial_whyNot c_trial_work c_trial_alikeAct c_trial_alikePair)) (As := []) (rest := []) G koX7_105 (r_X2_firstFault (o := (o + 5)) H_x1) (Nat.le_of_ble_eq_true rfl) 2 rfl rfl [5, 6] [0, 1, 2, 3, 4, 7, 8, 9, 10, 11, 12, 13, 14, 15, 16, 17, 18, 19, 20, 21, 22, 23, 24, 25, 26, 27, 28, 29, 30, 31, 32, 33, 34, 35, 36, 37, 38, 39, 40, 41, 42, 43] [0, 1, 2, 3, 4, 42, 43, 5, 6, 7, 8, 9, 10, 11, 12, 13, 14, 15, 16, 17, 18, 19, 20, 21, 22, 23, 24, 25, 26, 27, 28, 29, 30, 31, 32, 33, 34, 35, 36, 37, 38, 39, 40, 41] rfl rfl rfl rfl rfl rfl rfl rfl rfl (Nat.le_of_ble_eq_true rfl) ⟨Nat.zero_le _, Nat.zero_le _⟩ dX7_tryActs_4 rfl rfl ?_
  refine w_bipush (pc2 := 9) G dX7_tryActs_7 k_bipush_m6 rfl ?_
  refine w_icmp_eq (tgt := 15) (pc2 := 12) G dX7_tryActs_9 (by decide) rfl (fun cc => ?_) (fun cc => ?_)
  · replace h := (if_pos cc).symm.trans h
    refine w_aload_n (pc2 := 16) G 0 rfl dX7_tryActs_15 rfl rfl ?_
    refine w_get (pc2 := 19) G foX7_42 0 rfl rfl dX7_tryActs_16 rfl ?_
    refine w_aload_n (pc2 := 20) G 0 rfl dX7_tryActs_19 rfl rfl ?_
    refine w_get (pc2 := 23) G foX7_22 0 rfl rfl dX7_tryActs_20 rfl ?_
    refine w_aload_n (pc2 := 24) G 0 rfl dX7_tryActs_23 rfl rfl ?_
    refine w_get (pc2 := 27) G foX7_10 0 rfl rfl dX7_tryActs_24 rfl ?_
    obtain ⟨x2, H_x2, h⟩ := bs h
    refine w_cV1 (pc2 := 30) (ws2 := (wX7 E a o c_now_keys c_now_seed c_drawn_keys c_drawn_seed c_pad_signs c_pad_count c_sights_count c_sights_seeds c_img0_kept c_img0_world_keys c_img0_world_seed c_img0_sights_count c_img0_sights_seeds c_img1_kept c_img1_world_keys c_img1_world_seed c_img1_sights_count c_img1_sights_seeds x2.1 x2.2.1 x2.2.2.1 x2.2.2.2.1 x2.2.2.2.2.1 x2.2.2.2.2.2.1 x2.2.2.2.2.2.2.1 x2.2.2.2.2.2.2.2.1 x2.2.2.2.2.2.2.2.2.1 x2.2.2.2.2.2.2.2.2.2.1 x2.2.2.2.2.2.2.2.2.2.2.1 x2.2.2.2.2.2.2.2.2.2.2.2.1 x2.2.2.2.2.2.2.2.2.2.2.2.2.1 x2.2.2.2.2.2.2.2.2.2.2.2.2.2.1 x2.2.2.2.2.2.2.2.2.2.2.2.2.2.2.1 x2.2.2.2.2.2.2.2.2.2.2.2.2.2.2.2.1 x2.2.2.2.2.2.2.2.2.2.2.2.2.2.2.2.2.1 x2.2.2.2.2.2.2.2.2.2.2.2.2.2.2.2.2.2.1 x2.2.2.2.2.2.2.2.2.2.2.2.2.2.2.2.2.2.2.1 x2.2.2.2.2.2.2.2.2.2.2.2.2.2.2.2.2.2.2.2.1 x2.2.2.2.2.2.2.2.2.2.2.2.2.2.2.2.2.2.2.2.2.1 x2.2.2.2.2.2.2.2.2.2.2.2.2.2.2.2.2.2.2.2.2.2.1 x2.2.2.2.2.2.2.2.2.2.2.2.2.2.2.2.2.2.2.2.2.2.2.1 x2.2.2.2.2.2.2.2.2.2.2.2.2.2.2.2.2.2.2.2.2.2.2.2.1 x2.2.2.2.2.2.2.2.2.2.2.2.2.2.2.2.2.2.2.2.2.2.2.2.2.1 x2.2.2.2.2.2.2.2.2.2.2.2.2.2.2.2.2.2.2.2.2.2.2.2.2.2.1 x2.2.2.2.2.2.2.2.2.2.2.2.2.2.2.2.2.2.2.2.2.2.2.2.2.2.2.1 x2.2.2.2.2.2.2.2.2.2.2.2.2.2.2.2.2.2.2.2.2.2.2.2.2.2.2.2.1 x2.2.2.2.2.2.2.2.2.2.2.2.2.2.2.2.2.2.2.2.2.2.2.2.2.2.2.2.2.1 x2.2.2.2.2.2.2.2.2.2.2.2.2.2.2.2.2.2.2.2.2.2.2.2.2.2.2.2.2.2.1 x2.2.2.2.2.2.2.2.2.2.2.2.2.2.2.2.2.2.2.2.2.2.2.2.2.2.2.2.2.2.2.1 x2.2.2.2.2.2.2.2.2.2.2.2.2.2.2.2.2.2.2.2.2.2.2.2.2.2.2.2.2.2.2.2.1 x2.2.2.2.2.2.2.2.2.2.2.2.2.2.2.2.2.2.2.2.2.2.2.2.2.2.2.2.2.2.2.2.2)) (As := [.ref (a (o + 5)), .ref (a (o + 1))]) (rest := []) G koX7_153 (r_X5_play (o := (o + 20)) (o1 := (o + 5)) (o2 := (o + 1)) H_x2) (Nat.le_of_ble_eq_true rfl) 5 rfl rfl [20, 21, 22, 23, 24, 25, 26, 27, 28, 29, 30, 31, 32, 33, 34, 35, 36, 37, 38, 39, 40, 41, 42, 43, 5, 6, 1, 2] [0, 3, 4, 7, 8, 9, 10, 11, 12, 13, 14, 15, 16, 17, 18, 19] [0, 42, 43, 1, 2, 40, 41, 3, 4, 5, 6, 7, 8, 9, 10, 11, 12, 13, 14, 15, 16, 17, 18, 19, 20, 21, 22, 23, 24, 25, 26, 27, 28, 29, 30, 31, 32, 33, 34, 35, 36, 37, 38, 39] rfl rfl rfl rfl rfl rfl rfl rfl rfl (Nat.le_of_ble_eq_true rfl) ⟨Nat.zero_le _, Nat.zero_le _⟩ dX7_tryActs_27 rfl rfl ?_
    refine w_aload_n (pc2 := 31) G 0 rfl dX7_tryActs_30 rfl rfl ?_
    refine w_get (pc2 := 34) G foX7_42 0 rfl rfl dX7_tryActs_31 rfl ?_
    refine w_get (pc2 := 37) G foX7_118 20 rfl rfl dX7_tryActs_34 rfl ?_
    refine w_if_eq (tgt := 45) (pc2 := 40) G dX7_tryActs_37 (by decide) rfl (fun cc => ?_) (fun cc => ?_)
    · replace h := (if_pos cc).symm.trans h
      refine w_iconst (pc2 := 46) G dX7_tryActs_45 k_iconst_0 rfl ?_
      cases h
      exact w_iret G hQ rfl ⟨rfl, rfl⟩ dX7_tryActs_46
    · replace h := (if_neg cc).symm.trans h
      refine w_bipush (pc2 := 42) G dX7_tryActs_40 k_bipush_m3 rfl ?_
      refine w_goto (tgt := 46) G dX7_tryActs_42 (by decide) ?_
      cases h
      exact w_iret G hQ rfl ⟨rfl, rfl⟩ dX7_tryActs_46
  · replace h := (if_neg cc).symm.trans h
    refine w_bipush (pc2 := 14) G dX7_tryActs_12 k_bipush_m5 rfl ?_
    cases h
    exact w_iret G hQ rfl ⟨rfl, rfl⟩ dX7_tryActs_14
