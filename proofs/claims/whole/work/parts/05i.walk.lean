set_option maxHeartbeats 4000000 in
set_option maxRecDepth 100000 in
theorem lp_X7_deep_39 {g : CX} {E : EV} {a : Nat → Nat} {o : Nat} {c_now_keys : Nat → Int64} {c_now_seed : Int32} {c_drawn_keys : Nat → Int64} {c_drawn_seed : Int32} {c_pad_signs : Nat → Int32} {c_pad_count c_sights_count : Int32} {c_sights_seeds : Nat → Int64} {c_img0_kept : Int32} {c_img0_world_keys : Nat → Int64} {c_img0_world_seed c_img0_sights_count : Int32} {c_img0_sights_seeds : Nat → Int64} {c_img1_kept : Int32} {c_img1_world_keys : Nat → Int64} {c_img1_world_seed c_img1_sights_count : Int32} {c_img1_sights_seeds : Nat → Int64} {c_trial_act_kind c_trial_act_set c_trial_act_key c_trial_act_other : Int32} {c_trial_tb_left c_trial_tb_right c_trial_tb_parent : Nat → Int32} {c_trial_tb_span : Nat → Int64} {c_trial_tb_root : Int32} {c_trial_tb_digest c_trial_tb_height c_trial_tb_priority : Nat → Int32} {c_trial_tb_pricedBy : Int32} {c_trial_tb_open c_trial_ta_left c_trial_ta_right c_trial_ta_parent : Nat → Int32} {c_trial_ta_span : Nat → Int64} {c_trial_ta_root : Int32} {c_trial_ta_digest c_trial_ta_height c_trial_ta_priority : Nat → Int32} {c_trial_ta_pricedBy : Int32} {c_trial_ta_open : Nat → Int32} {c_trial_after_keys : Nat → Int64} {c_trial_after_seed : Int32} {c_trial_before_keys : Nat → Int64} {c_trial_before_seed c_trial_acts c_trial_whyNot c_trial_work c_trial_alikeAct c_trial_alikePair : Int32} {l3 : Int32} (G : GG g E RX7 cX7_deep 8 (some .long) 1 0 0) : ∀ (n : Nat) (l1 : Int32) (l2 : Int32) (l4 : Int64) (l6 : Int32) (R : Int64), L_X7_deep_39 n l1 l2 l4 l6 = some R → WW g E 8 0 0 (wX7 E a o c_now_keys c_now_seed c_drawn_keys c_drawn_seed c_pad_signs c_pad_count c_sights_count c_sights_seeds c_img0_kept c_img0_world_keys c_img0_world_seed c_img0_sights_count c_img0_sights_seeds c_img1_kept c_img1_world_keys c_img1_world_seed c_img1_sights_count c_img1_sights_seeds c_trial_act_kind c_trial_act_set c_trial_act_key c_trial_act_other c_trial_tb_left c_trial_tb_right c_trial_tb_parent c_trial_tb_span c_trial_tb_root c_trial_tb_digest c_trial_tb_height c_trial_tb_priority c_trial_tb_pricedBy c_trial_tb_open c_trial_ta_left c_trial_ta_right c_trial_ta_parent c_trial_ta_span c_trial_ta_root c_trial_ta_digest c_trial_ta_height c_trial_ta_priority c_trial_ta_pricedBy c_trial_ta_open c_trial_after_keys c_trial_after_seed c_trial_before_keys c_trial_before_seed c_trial_acts c_trial_whyNot c_trial_work c_trial_alikeAct c_trial_alikePair) [(3, .int l3), (4, .long R)] 76 [] → WW g E 8 0 0 (wX7 E a o c_now_keys c_now_seed c_drawn_keys c_drawn_seed c_pad_signs c_pad_count c_sights_count c_sights_seeds c_img0_kept c_img0_world_keys c_img0_world_seed c_img0_sights_count c_img0_sights_seeds c_img1_kept c_img1_world_keys c_img1_world_seed c_img1_sights_count c_img1_sights_seeds c_trial_act_kind c_trial_act_set c_trial_act_key c_trial_act_other c_trial_tb_left c_trial_tb_right c_trial_tb_parent c_trial_tb_span c_trial_tb_root c_trial_tb_digest c_trial_tb_height c_trial_tb_priority c_trial_tb_pricedBy c_trial_tb_open c_trial_ta_left c_trial_ta_right c_trial_ta_parent c_trial_ta_span c_trial_ta_root c_trial_ta_digest c_trial_ta_height c_trial_ta_priority c_trial_ta_pricedBy c_trial_ta_open c_trial_after_keys c_trial_after_seed c_trial_before_keys c_trial_before_seed c_trial_acts c_trial_whyNot c_trial_work c_trial_alikeAct c_trial_alikePair) [(1, .int l1), (2, .int l2), (3, .int l3), (4, .long l4), (6, .int l6)] 39 [] := by
  intro n
  induction n with
  | zero => intro l1 l2 l4 l6 R h; exact no_some h
  | succ n ih =>
    intro l1 l2 l4 l6 R h K
    rw [L_X7_deep_39] at h
    refine w_iload (pc2 := 41) G 4 rfl dX7_deep_39 rfl ?_
    refine w_iload_n (pc2 := 42) G 0 rfl dX7_deep_41 rfl rfl ?_
    refine w_icmp_ge (tgt := 76) (pc2 := 45) G dX7_deep_42 (by decide) rfl (fun cc => ?_) (fun cc => ?_)
    · replace h := (if_pos cc).symm.trans h
      cases h
      exact w_lv [2, 3] rfl K
    · replace h := (if_neg cc).symm.trans h
      refine w_iload (pc2 := 47) G 4 rfl dX7_deep_45 rfl ?_
      refine w_iload_n (pc2 := 48) G 1 rfl dX7_deep_47 rfl rfl ?_
      refine w_icmp_eq (tgt := 70) (pc2 := 51) G dX7_deep_48 (by decide) rfl (fun cc => ?_) (fun cc => ?_)
      · replace h := (if_pos cc).symm.trans h
        refine w_iinc (pc2 := 73) (lv2 := [(6, .int (l6 + (1 : Int32))), (1, .int l1), (2, .int l2), (3, .int l3), (4, .long l4)]) G 4 rfl dX7_deep_70 k_iconst_1 (Nat.le_of_ble_eq_true rfl) rfl rfl ?_
        refine w_goto (tgt := 39) G dX7_deep_73 (by decide) ?_
        exact w_lv [1, 2, 3, 4, 0] rfl (ih _ _ _ _ _ h K)
      · replace h := (if_neg cc).symm.trans h
        refine w_lload (pc2 := 53) G 3 rfl dX7_deep_51 rfl ?_
        refine w_ldc2 (pc2 := 56) G wd_160 dX7_deep_53 rfl ?_
        refine w_iload (pc2 := 58) G 4 rfl dX7_deep_56 rfl ?_
        refine w_iload_n (pc2 := 59) G 1 rfl dX7_deep_58 rfl rfl ?_
        refine w_isub (pc2 := 60) G dX7_deep_59 rfl ?_
        refine w_mabs (pc2 := 63) G wd_161 wd_162 wd_56 mc_abs (Nat.le_of_ble_eq_true rfl) (Nat.zero_le _) (Nat.zero_le _) (Nat.le_of_ble_eq_true rfl) dX7_deep_60 rfl ?_
        refine w_iconst (pc2 := 64) G dX7_deep_63 k_iconst_1 rfl ?_
        refine w_iadd (pc2 := 65) G dX7_deep_64 rfl ?_
        refine w_i2l (pc2 := 66) G dX7_deep_65 rfl ?_
        obtain ⟨v1, H_v1, h⟩ := bs h
        refine w_ldivo (pc2 := 67) G H_v1 dX7_deep_66 rfl ?_
        refine w_ladd (pc2 := 68) G dX7_deep_67 rfl ?_
        refine w_lstore (pc2 := 70) (lv2 := [(4, .long (l4 + v1)), (1, .int l1), (2, .int l2), (3, .int l3), (6, .int l6)]) G dX7_deep_68 (Nat.le_of_ble_eq_true rfl) rfl rfl ?_
        refine w_iinc (pc2 := 73) (lv2 := [(6, .int (l6 + (1 : Int32))), (4, .long (l4 + v1)), (1, .int l1), (2, .int l2), (3, .int l3)]) G 4 rfl dX7_deep_70 k_iconst_1 (Nat.le_of_ble_eq_true rfl) rfl rfl ?_
        refine w_goto (tgt := 39) G dX7_deep_73 (by decide) ?_
        exact w_lv [2, 3, 4, 1, 0] rfl (ih _ _ _ _ _ h K)
set_option maxHeartbeats 4000000 in
set_option maxRecDepth 100000 in
theorem r_X7_deep {l : Launch} {E : EV} {a : Nat → Nat} {o : Nat} {c_now_keys : Nat → Int64} {c_now_seed : Int32} {c_drawn_keys : Nat → Int64} {c_drawn_seed : Int32} {c_pad_signs : Nat → Int32} {c_pad_count c_sights_count : Int32} {c_sights_seeds : Nat → Int64} {c_img0_kept : Int32} {c_img0_world_keys : Nat → Int64} {c_img0_world_seed c_img0_sights_count : Int32} {c_img0_sights_seeds : Nat → Int64} {c_img1_kept : Int32} {c_img1_world_keys : Nat → Int64} {c_img1_world_seed c_img1_sights_count : Int32} {c_img1_sights_seeds : Nat → Int64} {c_trial_act_kind c_trial_act_set c_trial_act_key c_trial_act_other : Int32} {c_trial_tb_left c_trial_tb_right c_trial_tb_parent : Nat → Int32} {c_trial_tb_span : Nat → Int64} {c_trial_tb_root : Int32} {c_trial_tb_digest c_trial_tb_height c_trial_tb_priority : Nat → Int32} {c_trial_tb_pricedBy : Int32} {c_trial_tb_open c_trial_ta_left c_trial_ta_right c_trial_ta_parent : Nat → Int32} {c_trial_ta_span : Nat → Int64} {c_trial_ta_root : Int32} {c_trial_ta_digest c_trial_ta_height c_trial_ta_priority : Nat → Int32} {c_trial_ta_pricedBy : Int32} {c_trial_ta_open : Nat → Int32} {c_trial_after_keys : Nat → Int64} {c_trial_after_seed : Int32} {c_trial_before_keys : Nat → Int64} {c_trial_before_seed c_trial_acts c_trial_whyNot c_trial_work c_trial_alikeAct c_trial_alikePair : Int32} {l1 : Int32} {l2 : Int32} {l3 : Int32} {R : Int64} (h : f_X7_deep l1 l2 l3 = some R) : Ret1 l E yX7_deep cX7_deep 8 (some .long) 1 (wX7 E a o c_now_keys c_now_seed c_drawn_keys c_drawn_seed c_pad_signs c_pad_count c_sights_count c_sights_seeds c_img0_kept c_img0_world_keys c_img0_world_seed c_img0_sights_count c_img0_sights_seeds c_img1_kept c_img1_world_keys c_img1_world_seed c_img1_sights_count c_img1_sights_seeds c_trial_act_kind c_trial_act_set c_trial_act_key c_trial_act_other c_trial_tb_left c_trial_tb_right c_trial_tb_parent c_trial_tb_span c_trial_tb_root c_trial_tb_digest c_trial_tb_height c_trial_tb_priority c_trial_tb_pricedBy c_trial_tb_open c_trial_ta_left c_trial_ta_right c_trial_ta_parent c_trial_ta_span c_trial_ta_root c_trial_ta_digest c_trial_ta_height c_trial_ta_priority c_trial_ta_pricedBy c_trial_ta_open c_trial_after_keys c_trial_after_seed c_trial_before_keys c_trial_before_seed c_trial_acts c_trial_whyNot c_trial_work c_trial_alikeAct c_trial_alikePair) [.ref (a o), .int l1, .int l2, .int l3] (some (.long R)) (wX7 E a o c_now_keys c_now_seed c_drawn_keys c_drawn_seed c_pad_signs c_pad_count c_sights_count c_sights_seeds c_img0_kept c_img0_world_keys c_img0_world_seed c_img0_sights_count c_img0_sights_seeds c_img1_kept c_img1_world_keys c_img1_world_seed c_img1_sights_count c_img1_sights_seeds c_trial_act_kind c_trial_act_set c_trial_act_key c_trial_act_other c_trial_tb_left c_trial_tb_right c_trial_tb_parent c_trial_tb_span c_trial_tb_root c_trial_tb_digest c_trial_tb_height c_trial_tb_priority c_trial_tb_pricedBy c_trial_tb_open c_trial_ta_left c_trial_ta_right c_trial_ta_parent c_trial_ta_span c_trial_ta_root c_trial_ta_digest c_trial_ta_height c_trial_ta_priority c_trial_ta_pricedBy c_trial_ta_open c_trial_after_keys c_trial_after_seed c_trial_before_keys c_trial_before_seed c_trial_acts c_trial_whyNot c_trial_work c_trial_alikeAct c_trial_alikePair) := by
  refine Ret.intro (lv := [(0, .ref (a o)), (1, .int l1), (2, .int l2), (3, .int l3)]) (by decide) (Nat.le_of_ble_eq_true rfl) rfl ?_
  intro g hgl G hQ
  subst hgl
  rw [f_X7_deep] at h
  refine w_iload_n (pc2 := 1) G 1 rfl dX7_deep_0 rfl rfl ?_
  refine w_iconst (pc2 := 2) G dX7_deep_1 k_iconst_1 rfl ?_
  refine w_icmp_lt (tgt := 29) (pc2 := 5) G dX7_deep_2 (by decide) rfl (fun cc => ?_) (fun cc => ?_)
  · replace h := (if_pos cc).symm.trans h
    refine w_ldc2 (pc2 := 32) G wd_159 dX7_deep_29 rfl ?_
    cases h
    exact w_lret G hQ rfl ⟨rfl, rfl⟩ dX7_deep_32
  · replace h := (if_neg cc).symm.trans h
    refine w_iload_n (pc2 := 6) G 1 rfl dX7_deep_5 rfl rfl ?_
    refine w_bipush (pc2 := 8) G dX7_deep_6 k_bipush_20 rfl ?_
    refine w_icmp_gt (tgt := 29) (pc2 := 11) G dX7_deep_8 (by decide) rfl (fun cc => ?_) (fun cc => ?_)
    · replace h := (if_pos cc).symm.trans h
      refine w_ldc2 (pc2 := 32) G wd_159 dX7_deep_29 rfl ?_
      cases h
      exact w_lret G hQ rfl ⟨rfl, rfl⟩ dX7_deep_32
    · replace h := (if_neg cc).symm.trans h
      refine w_iload_n (pc2 := 12) G 2 rfl dX7_deep_11 rfl rfl ?_
      refine w_if_lt (tgt := 29) (pc2 := 15) G dX7_deep_12 (by decide) rfl (fun cc => ?_) (fun cc => ?_)
      · replace h := (if_pos cc).symm.trans h
        refine w_ldc2 (pc2 := 32) G wd_159 dX7_deep_29 rfl ?_
        cases h
        exact w_lret G hQ rfl ⟨rfl, rfl⟩ dX7_deep_32
      · replace h := (if_neg cc).symm.trans h
        refine w_iload_n (pc2 := 16) G 2 rfl dX7_deep_15 rfl rfl ?_
        refine w_iload_n (pc2 := 17) G 1 rfl dX7_deep_16 rfl rfl ?_
        refine w_icmp_ge (tgt := 29) (pc2 := 20) G dX7_deep_17 (by decide) rfl (fun cc => ?_) (fun cc => ?_)
        · replace h := (if_pos cc).symm.trans h
          refine w_ldc2 (pc2 := 32) G wd_159 dX7_deep_29 rfl ?_
          cases h
          exact w_lret G hQ rfl ⟨rfl, rfl⟩ dX7_deep_32
        · replace h := (if_neg cc).symm.trans h
          refine w_iload_n (pc2 := 21) G 3 rfl dX7_deep_20 rfl rfl ?_
          refine w_if_lt (tgt := 29) (pc2 := 24) G dX7_deep_21 (by decide) rfl (fun cc => ?_) (fun cc => ?_)
          · replace h := (if_pos cc).symm.trans h
            refine w_ldc2 (pc2 := 32) G wd_159 dX7_deep_29 rfl ?_
            cases h
            exact w_lret G hQ rfl ⟨rfl, rfl⟩ dX7_deep_32
          · replace h := (if_neg cc).symm.trans h
            refine w_iload_n (pc2 := 25) G 3 rfl dX7_deep_24 rfl rfl ?_
            refine w_iconst (pc2 := 26) G dX7_deep_25 k_iconst_1 rfl ?_
            refine w_icmp_le (tgt := 33) (pc2 := 29) G dX7_deep_26 (by decide) rfl (fun cc => ?_) (fun cc => ?_)
            · replace h := (if_pos cc).symm.trans h
              refine w_lconst (pc2 := 34) G dX7_deep_33 k_lconst_0 rfl ?_
              refine w_lstore (pc2 := 36) (lv2 := [(4, .long (0 : Int64)), (0, .ref (a o)), (1, .int l1), (2, .int l2), (3, .int l3)]) G dX7_deep_34 (Nat.le_of_ble_eq_true rfl) rfl rfl ?_
              refine w_iconst (pc2 := 37) G dX7_deep_36 k_iconst_0 rfl ?_
              refine w_istore (pc2 := 39) (lv2 := [(6, .int (0 : Int32)), (4, .long (0 : Int64)), (0, .ref (a o)), (1, .int l1), (2, .int l2), (3, .int l3)]) G dX7_deep_37 (Nat.le_of_ble_eq_true rfl) rfl rfl ?_
              obtain ⟨x1, h0, h⟩ := bs h
              have K_x1 : WW g E 8 0 0 (wX7 E a o c_now_keys c_now_seed c_drawn_keys c_drawn_seed c_pad_signs c_pad_count c_sights_count c_sights_seeds c_img0_kept c_img0_world_keys c_img0_world_seed c_img0_sights_count c_img0_sights_seeds c_img1_kept c_img1_world_keys c_img1_world_seed c_img1_sights_count c_img1_sights_seeds c_trial_act_kind c_trial_act_set c_trial_act_key c_trial_act_other c_trial_tb_left c_trial_tb_right c_trial_tb_parent c_trial_tb_span c_trial_tb_root c_trial_tb_digest c_trial_tb_height c_trial_tb_priority c_trial_tb_pricedBy c_trial_tb_open c_trial_ta_left c_trial_ta_right c_trial_ta_parent c_trial_ta_span c_trial_ta_root c_trial_ta_digest c_trial_ta_height c_trial_ta_priority c_trial_ta_pricedBy c_trial_ta_open c_trial_after_keys c_trial_after_seed c_trial_before_keys c_trial_before_seed c_trial_acts c_trial_whyNot c_trial_work c_trial_alikeAct c_trial_alikePair) [(3, .int l3), (4, .long x1)] 76 [] := by
                clear h0
                refine w_ldc2 (pc2 := 79) G wd_160 dX7_deep_76 rfl ?_
                refine w_lload (pc2 := 81) G 1 rfl dX7_deep_79 rfl ?_
                obtain ⟨x2, H_x2, h⟩ := bs h
                refine w_cS0 (pc2 := 84) (As := [.long (232792560 : Int64), .long x1]) (rest := []) G koX7_221 (r_X7_greatestDivisor H_x2) (Nat.le_of_ble_eq_true rfl) rfl rfl (Nat.le_of_ble_eq_true rfl) ⟨Nat.zero_le _, Nat.zero_le _⟩ dX7_deep_81 rfl rfl ?_
                refine w_lstore (pc2 := 86) (lv2 := [(6, .long x2), (3, .int l3), (4, .long x1)]) G dX7_deep_84 (Nat.le_of_ble_eq_true rfl) rfl rfl ?_
                refine w_iload_n (pc2 := 87) G 1 rfl dX7_deep_86 rfl rfl ?_
                refine w_if_ne (tgt := 95) (pc2 := 90) G dX7_deep_87 (by decide) rfl (fun cc => ?_) (fun cc => ?_)
                · replace h := (if_neg cc).symm.trans h
                  refine w_ldc2 (pc2 := 98) G wd_160 dX7_deep_95 rfl ?_
                  refine w_lconst (pc2 := 99) G dX7_deep_98 k_lconst_1 rfl ?_
                  refine w_lload (pc2 := 101) G 0 rfl dX7_deep_99 rfl ?_
                  refine w_mmaxL (pc2 := 104) G wd_165 wd_166 wd_56 mc_maxL (Nat.le_of_ble_eq_true rfl) (Nat.zero_le _) (Nat.zero_le _) (Nat.le_of_ble_eq_true rfl) dX7_deep_101 rfl ?_
                  obtain ⟨v3, H_v3, h⟩ := bs h
                  refine w_ldivo (pc2 := 105) G H_v3 dX7_deep_104 rfl ?_
                  cases h
                  exact w_lret G hQ rfl ⟨rfl, rfl⟩ dX7_deep_105
                · replace h := (if_pos cc).symm.trans h
                  refine w_lload (pc2 := 92) G 2 rfl dX7_deep_90 rfl ?_
                  refine w_goto (tgt := 98) G dX7_deep_92 (by decide) ?_
                  refine w_lconst (pc2 := 99) G dX7_deep_98 k_lconst_1 rfl ?_
                  refine w_lload (pc2 := 101) G 0 rfl dX7_deep_99 rfl ?_
                  refine w_mmaxL (pc2 := 104) G wd_165 wd_166 wd_56 mc_maxL (Nat.le_of_ble_eq_true rfl) (Nat.zero_le _) (Nat.zero_le _) (Nat.le_of_ble_eq_true rfl) dX7_deep_101 rfl ?_
                  obtain ⟨v4, H_v4, h⟩ := bs h
                  refine w_ldivo (pc2 := 105) G H_v4 dX7_deep_104 rfl ?_
                  cases h
                  exact w_lret G hQ rfl ⟨rfl, rfl⟩ dX7_deep_105
              exact w_lv [3, 4, 5, 1, 0] rfl (lp_X7_deep_39 G 20000 _ _ _ _ _ h0 (w_lv [0, 1] rfl K_x1))
            · replace h := (if_neg cc).symm.trans h
              refine w_ldc2 (pc2 := 32) G wd_159 dX7_deep_29 rfl ?_
              cases h
              exact w_lret G hQ rfl ⟨rfl, rfl⟩ dX7_deep_32

set_option maxHeartbeats 4000000 in
set_option maxRecDepth 100000 in
theorem r_X7_digest {l : Launch} {E : EV} {a : Nat → Nat} {o : Nat} {c_now_keys : Nat → Int64} {c_now_seed : Int32} {c_drawn_keys : Nat → Int64} {c_drawn_seed : Int32} {c_pad_signs : Nat → Int32} {c_pad_count c_sights_count : Int32} {c_sights_seeds : Nat → Int64} {c_img0_kept : Int32} {c_img0_world_keys : Nat → Int64} {c_img0_world_seed c_img0_sights_count : Int32} {c_img0_sights_seeds : Nat → Int64} {c_img1_kept : Int32} {c_img1_world_keys : Nat → Int64} {c_img1_world_seed c_img1_sights_count : Int32} {c_img1_sights_seeds : Nat → Int64} {c_trial_act_kind c_trial_act_set c_trial_act_key c_trial_act_other : Int32} {c_trial_tb_left c_trial_tb_right c_trial_tb_parent : Nat → Int32} {c_trial_tb_span : Nat → Int64} {c_trial_tb_root : Int32} {c_trial_tb_digest c_trial_tb_height c_trial_tb_priority : Nat → Int32} {c_trial_tb_pricedBy : Int32} {c_trial_tb_open c_trial_ta_left c_trial_ta_right c_trial_ta_parent : Nat → Int32} {c_trial_ta_span : Nat → Int64} {c_trial_ta_root : Int32} {c_trial_ta_digest c_trial_ta_height c_trial_ta_priority : Nat → Int32} {c_trial_ta_pricedBy : Int32} {c_trial_ta_open : Nat → Int32} {c_trial_after_keys : Nat → Int64} {c_trial_after_seed : Int32} {c_trial_before_keys : Nat → Int64} {c_trial_before_seed c_trial_acts c_trial_whyNot c_trial_work c_trial_alikeAct c_trial_alikePair : Int32} {l1 : Int64} {l3 : Int32} {R : Int32 × (Nat → Int32) × (Nat → Int32) × (Nat → Int32) × (Nat → Int64) × Int32 × (Nat → Int32) × (Nat → Int32) × (Nat → Int32) × Int32 × (Nat → Int32)} (h : f_X7_digest c_trial_tb_left c_trial_tb_right c_trial_tb_parent c_trial_tb_span c_trial_tb_root c_trial_tb_digest c_trial_tb_height c_trial_tb_priority c_trial_tb_pricedBy c_trial_tb_open l1 l3 = some R) : Ret1 l E yX7_digest cX7_digest 4 (some .int) 3 (wX7 E a o c_now_keys c_now_seed c_drawn_keys c_drawn_seed c_pad_signs c_pad_count c_sights_count c_sights_seeds c_img0_kept c_img0_world_keys c_img0_world_seed c_img0_sights_count c_img0_sights_seeds c_img1_kept c_img1_world_keys c_img1_world_seed c_img1_sights_count c_img1_sights_seeds c_trial_act_kind c_trial_act_set c_trial_act_key c_trial_act_other c_trial_tb_left c_trial_tb_right c_trial_tb_parent c_trial_tb_span c_trial_tb_root c_trial_tb_digest c_trial_tb_height c_trial_tb_priority c_trial_tb_pricedBy c_trial_tb_open c_trial_ta_left c_trial_ta_right c_trial_ta_parent c_trial_ta_span c_trial_ta_root c_trial_ta_digest c_trial_ta_height c_trial_ta_priority c_trial_ta_pricedBy c_trial_ta_open c_trial_after_keys c_trial_after_seed c_trial_before_keys c_trial_before_seed c_trial_acts c_trial_whyNot c_trial_work c_trial_alikeAct c_trial_alikePair) [.ref (a o), .long l1, .int l3] (some (.int R.1)) (wX7 E a o c_now_keys c_now_seed c_drawn_keys c_drawn_seed c_pad_signs c_pad_count c_sights_count c_sights_seeds c_img0_kept c_img0_world_keys c_img0_world_seed c_img0_sights_count c_img0_sights_seeds c_img1_kept c_img1_world_keys c_img1_world_seed c_img1_sights_count c_img1_sights_seeds c_trial_act_kind c_trial_act_set c_trial_act_key c_trial_act_other R.2.1 R.2.2.1 R.2.2.2.1 R.2.2.2.2.1 R.2.2.2.2.2.1 R.2.2.2.2.2.2.1 R.2.2.2.2.2.2.2.1 R.2.2.2.2.2.2.2.2.1 R.2.2.2.2.2.2.2.2.2.1 R.2.2.2.2.2.2.2.2.2.2 c_trial_ta_left c_trial_ta_right c_trial_ta_parent c_trial_ta_span c_trial_ta_root c_trial_ta_digest c_trial_ta_height c_trial_ta_priority c_trial_ta_pricedBy c_trial_ta_open c_trial_after_keys c_trial_after_seed c_trial_before_keys c_trial_before_seed c_trial_acts c_trial_whyNot c_trial_work c_trial_alikeAct c_trial_alikePair) := by
  refine Ret.intro (lv := [(0, .ref (a o)), (1, .long l1), (3, .int l3)]) (by decide) (Nat.le_of_ble_eq_true rfl) rfl ?_
  intro g hgl G hQ
  subst hgl
  rw [f_X7_digest] at h
  refine w_aload_n (pc2 := 1) G 0 rfl dX7_digest_0 rfl rfl ?_
  refine w_get (pc2 := 4) G foX7_55 0 rfl rfl dX7_digest_1 rfl ?_
  refine w_lload_n (pc2 := 5) G 1 rfl dX7_digest_4 rfl rfl ?_
  refine w_iload_n (pc2 := 6) G 2 rfl dX7_digest_5 rfl rfl ?_
  obtain ⟨x1, H_x1, h⟩ := bs h
  refine w_cV1 (pc2 := 9) (ws2 := (wX7 E a o c_now_keys c_now_seed c_drawn_keys c_drawn_seed c_pad_signs c_pad_count c_sights_count c_sights_seeds c_img0_kept c_img0_world_keys c_img0_world_seed c_img0_sights_count c_img0_sights_seeds c_img1_kept c_img1_world_keys c_img1_world_seed c_img1_sights_count c_img1_sights_seeds c_trial_act_kind c_trial_act_set c_trial_act_key c_trial_act_other x1.1 x1.2.1 x1.2.2.1 x1.2.2.2.1 x1.2.2.2.2.1 x1.2.2.2.2.2.1 x1.2.2.2.2.2.2.1 x1.2.2.2.2.2.2.2.1 x1.2.2.2.2.2.2.2.2.1 x1.2.2.2.2.2.2.2.2.2 c_trial_ta_left c_trial_ta_right c_trial_ta_parent c_trial_ta_span c_trial_ta_root c_trial_ta_digest c_trial_ta_height c_trial_ta_priority c_trial_ta_pricedBy c_trial_ta_open c_trial_after_keys c_trial_after_seed c_trial_before_keys c_trial_before_seed c_trial_acts c_trial_whyNot c_trial_work c_trial_alikeAct c_trial_alikePair)) (As := [.long l1, .int l3]) (rest := []) G koX7_124 (r_X4_grow (o := (o + 22)) H_x1) (Nat.le_of_ble_eq_true rfl) 4 rfl rfl [22, 23, 24, 25, 26, 27, 28, 29, 30] [0, 1, 2, 3, 4, 5, 6, 7, 8, 9, 10, 11, 12, 13, 14, 15, 16, 17, 18, 19, 20, 21, 31, 32, 33, 34, 35, 36, 37, 38, 39, 40, 41, 42, 43] [0, 1, 2, 3, 4, 5, 6, 7, 8, 9, 10, 11, 12, 13, 14, 15, 16, 17, 18, 19, 20, 21, 35, 36, 37, 38, 39, 40, 41, 42, 43, 22, 23, 24, 25, 26, 27, 28, 29, 30, 31, 32, 33, 34] rfl rfl rfl rfl rfl rfl rfl rfl rfl (Nat.le_of_ble_eq_true rfl) ⟨Nat.zero_le _, Nat.zero_le _⟩ dX7_digest_6 rfl rfl ?_
  refine w_aload_n (pc2 := 10) G 0 rfl dX7_digest_9 rfl rfl ?_
  refine w_get (pc2 := 13) G foX7_55 0 rfl rfl dX7_digest_10 rfl ?_
  refine w_aload_n (pc2 := 14) G 0 rfl dX7_digest_13 rfl rfl ?_
  refine w_get (pc2 := 17) G foX7_55 0 rfl rfl dX7_digest_14 rfl ?_
  refine w_get (pc2 := 20) G foX7_130 22 rfl rfl dX7_digest_17 rfl ?_
  obtain ⟨x2, H_x2, h⟩ := bs h
  refine w_cV1 (pc2 := 23) (ws2 := (wX7 E a o c_now_keys c_now_seed c_drawn_keys c_drawn_seed c_pad_signs c_pad_count c_sights_count c_sights_seeds c_img0_kept c_img0_world_keys c_img0_world_seed c_img0_sights_count c_img0_sights_seeds c_img1_kept c_img1_world_keys c_img1_world_seed c_img1_sights_count c_img1_sights_seeds c_trial_act_kind c_trial_act_set c_trial_act_key c_trial_act_other x1.1 x1.2.1 x1.2.2.1 x1.2.2.2.1 x1.2.2.2.2.1 x1.2.2.2.2.2.1 x1.2.2.2.2.2.2.1 x1.2.2.2.2.2.2.2.1 x1.2.2.2.2.2.2.2.2.1 x1.2.2.2.2.2.2.2.2.2 c_trial_ta_left c_trial_ta_right c_trial_ta_parent c_trial_ta_span c_trial_ta_root c_trial_ta_digest c_trial_ta_height c_trial_ta_priority c_trial_ta_pricedBy c_trial_ta_open c_trial_after_keys c_trial_after_seed c_trial_before_keys c_trial_before_seed c_trial_acts c_trial_whyNot c_trial_work c_trial_alikeAct c_trial_alikePair)) (As := [.int x1.2.2.2.2.1]) (rest := []) G koX7_137 (r_X4_digestBelow (o := (o + 22)) H_x2) (Nat.le_of_ble_eq_true rfl) 4 rfl rfl [22, 23, 24, 25, 26, 27, 28, 29, 30] [0, 1, 2, 3, 4, 5, 6, 7, 8, 9, 10, 11, 12, 13, 14, 15, 16, 17, 18, 19, 20, 21, 31, 32, 33, 34, 35, 36, 37, 38, 39, 40, 41, 42, 43] [0, 1, 2, 3, 4, 5, 6, 7, 8, 9, 10, 11, 12, 13, 14, 15, 16, 17, 18, 19, 20, 21, 35, 36, 37, 38, 39, 40, 41, 42, 43, 22, 23, 24, 25, 26, 27, 28, 29, 30, 31, 32, 33, 34] rfl rfl rfl rfl rfl rfl rfl rfl rfl (Nat.le_of_ble_eq_true rfl) ⟨Nat.zero_le _, Nat.zero_le _⟩ dX7_digest_20 rfl rfl ?_
  cases h
  exact w_iret G hQ rfl ⟨rfl, rfl⟩ dX7_digest_23

set_option maxHeartbeats 4000000 in
set_option maxRecDepth 100000 in
theorem lp_X7_run_47 {g : CX} {E : EV} {a : Nat → Nat} {o : Nat} {c_now_keys : Nat → Int64} {c_now_seed : Int32} {c_pad_signs : Nat → Int32} {c_pad_count c_sights_count : Int32} {c_sights_seeds : Nat → Int64} {c_img0_kept : Int32} {c_img0_world_keys : Nat → Int64} {c_img0_world_seed c_img0_sights_count : Int32} {c_img0_sights_seeds : Nat → Int64} {c_img1_kept : Int32} {c_img1_world_keys : Nat → Int64} {c_img1_world_seed c_img1_sights_count : Int32} {c_img1_sights_seeds : Nat → Int64} {c_trial_tb_left c_trial_tb_right c_trial_tb_parent : Nat → Int32} {c_trial_tb_span : Nat → Int64} {c_trial_tb_root : Int32} {c_trial_tb_digest c_trial_tb_height c_trial_tb_priority : Nat → Int32} {c_trial_tb_pricedBy : Int32} {c_trial_tb_open c_trial_ta_left c_trial_ta_right c_trial_ta_parent : Nat → Int32} {c_trial_ta_span : Nat → Int64} {c_trial_ta_root : Int32} {c_trial_ta_digest c_trial_ta_height c_trial_ta_priority : Nat → Int32} {c_trial_ta_pricedBy : Int32} {c_trial_ta_open : Nat → Int32} {c_trial_after_keys : Nat → Int64} {c_trial_after_seed : Int32} {c_trial_before_keys : Nat → Int64} {c_trial_before_seed c_trial_acts c_trial_whyNot c_trial_work c_trial_alikeAct c_trial_alikePair : Int32} {l3 : Int32} (G : GG g E RX7 cX7_run 6 (some .int) 4 0 0) : ∀ (n : Nat) (c_drawn_keys : Nat → Int64) (c_drawn_seed : Int32) (c_trial_act_kind : Int32) (c_trial_act_set : Int32) (c_trial_act_key : Int32) (c_trial_act_other : Int32) (l2 : Int32) (l4 : Int32) (l5 : Int32) (R : (Nat → Int64) × Int32 × Int32 × Int32 × Int32 × Int32), L_X7_run_47 n c_drawn_keys c_drawn_seed c_trial_act_kind c_trial_act_set c_trial_act_key c_trial_act_other l2 l4 l5 = some R → WW g E 6 0 0 (wX7 E a o c_now_keys c_now_seed R.1 R.2.1 c_pad_signs c_pad_count c_sights_count c_sights_seeds c_img0_kept c_img0_world_keys c_img0_world_seed c_img0_sights_count c_img0_sights_seeds c_img1_kept c_img1_world_keys c_img1_world_seed c_img1_sights_count c_img1_sights_seeds R.2.2.1 R.2.2.2.1 R.2.2.2.2.1 R.2.2.2.2.2 c_trial_tb_left c_trial_tb_right c_trial_tb_parent c_trial_tb_span c_trial_tb_root c_trial_tb_digest c_trial_tb_height c_trial_tb_priority c_trial_tb_pricedBy c_trial_tb_open c_trial_ta_left c_trial_ta_right c_trial_ta_parent c_trial_ta_span c_trial_ta_root c_trial_ta_digest c_trial_ta_height c_trial_ta_priority c_trial_ta_pricedBy c_trial_ta_open c_trial_after_keys c_trial_after_seed c_trial_before_keys c_trial_before_seed c_trial_acts c_trial_whyNot c_trial_work c_trial_alikeAct c_trial_alikePair) [(0, .ref (a o)), (3, .int l3)] 106 [] → WW g E 6 0 0 (wX7 E a o c_now_keys c_now_seed c_drawn_keys c_drawn_seed c_pad_signs c_pad_count c_sights_count c_sights_seeds c_img0_kept c_img0_world_keys c_img0_world_seed c_img0_sights_count c_img0_sights_seeds c_img1_kept c_img1_world_keys c_img1_world_seed c_img1_sights_count c_img1_sights_seeds c_trial_act_kind c_trial_act_set c_trial_act_key c_trial_act_other c_trial_tb_left c_trial_tb_right c_trial_tb_parent c_trial_tb_span c_trial_tb_root c_trial_tb_digest c_trial_tb_height c_trial_tb_priority c_trial_tb_pricedBy c_trial_tb_open c_trial_ta_left c_trial_ta_right c_trial_ta_parent c_trial_ta_span c_trial_ta_root c_trial_ta_digest c_trial_ta_height c_trial_ta_priority c_trial_ta_pricedBy c_trial_ta_open c_trial_after_keys c_trial_after_seed c_trial_before_keys c_trial_before_seed c_trial_acts c_trial_whyNot c_trial_work c_trial_alikeAct c_trial_alikePair) [(0, .ref (a o)), (2, .int l2), (3, .int l3), (4, .int l4), (5, .int l5)] 47 [] := by
  intro n
  induction n with
  | zero => intro c_drawn_keys c_drawn_seed c_trial_act_kind c_trial_act_set c_trial_act_key c_trial_act_other l2 l4 l5 R h; exact no_some h
  | succ n ih =>
    intro c_drawn_keys c_drawn_seed c_trial_act_kind c_trial_act_set c_trial_act_key c_trial_act_other l2 l4 l5 R h K
    rw [L_X7_run_47] at h
    refine w_iload (pc2 := 49) G 4 rfl dX7_run_47 rfl ?_
    refine w_iload_n (pc2 := 50) G 1 rfl dX7_run_49 rfl rfl ?_
    refine w_icmp_ge (tgt := 106) (pc2 := 53) G dX7_run_50 (by decide) rfl (fun cc => ?_) (fun cc => ?_)
    · replace h := (if_pos cc).symm.trans h
      cases h
      exact w_lv [0, 2] rfl K
    · replace h := (if_neg cc).symm.trans h
      refine w_bipush (pc2 := 55) G dX7_run_53 k_bipush_75 rfl ?_
      refine w_iload (pc2 := 57) G 3 rfl dX7_run_55 rfl ?_
      refine w_imul (pc2 := 58) G dX7_run_57 rfl ?_
      refine w_bipush (pc2 := 60) G dX7_run_58 k_bipush_74 rfl ?_
      refine w_iadd (pc2 := 61) G dX7_run_60 rfl ?_
      refine w_ldc (pc2 := 63) G wd_167 dX7_run_61 rfl ?_
      refine w_irem (pc2 := 64) G dX7_run_63 (by decide) rfl ?_
      refine w_istore (pc2 := 66) (lv2 := [(4, .int ((((75 : Int32) * l4) + (74 : Int32)) - (((75 : Int32) * l4) + (74 : Int32)) / (65537 : Int32) * (65537 : Int32))), (0, .ref (a o)), (2, .int l2), (3, .int l3), (5, .int l5)]) G dX7_run_64 (Nat.le_of_ble_eq_true rfl) rfl rfl ?_
      refine w_aload_n (pc2 := 67) G 1 rfl dX7_run_66 rfl rfl ?_
      refine w_get (pc2 := 70) G foX7_50 0 rfl rfl dX7_run_67 rfl ?_
      refine w_iload (pc2 := 72) G 0 rfl dX7_run_70 rfl ?_
      obtain ⟨x1, H_x1, h⟩ := bs h
      refine w_cV1 (pc2 := 75) (ws2 := (wX7 E a o c_now_keys c_now_seed c_drawn_keys c_drawn_seed c_pad_signs c_pad_count c_sights_count c_sights_seeds c_img0_kept c_img0_world_keys c_img0_world_seed c_img0_sights_count c_img0_sights_seeds c_img1_kept c_img1_world_keys c_img1_world_seed c_img1_sights_count c_img1_sights_seeds x1.1 x1.2.1 x1.2.2.1 x1.2.2.2 c_trial_tb_left c_trial_tb_right c_trial_tb_parent c_trial_tb_span c_trial_tb_root c_trial_tb_digest c_trial_tb_height c_trial_tb_priority c_trial_tb_pricedBy c_trial_tb_open c_trial_ta_left c_trial_ta_right c_trial_ta_parent c_trial_ta_span c_trial_ta_root c_trial_ta_digest c_trial_ta_height c_trial_ta_priority c_trial_ta_pricedBy c_trial_ta_open c_trial_after_keys c_trial_after_seed c_trial_before_keys c_trial_before_seed c_trial_acts c_trial_whyNot c_trial_work c_trial_alikeAct c_trial_alikePair)) (As := [.int ((((75 : Int32) * l4) + (74 : Int32)) - (((75 : Int32) * l4) + (74 : Int32)) / (65537 : Int32) * (65537 : Int32))]) (rest := []) G koX7_229 (r_X0_draw (o := (o + 21)) H_x1) (Nat.le_of_ble_eq_true rfl) 0 rfl rfl [21] [0, 1, 2, 3, 4, 5, 6, 7, 8, 9, 10, 11, 12, 13, 14, 15, 16, 17, 18, 19, 20, 22, 23, 24, 25, 26, 27, 28, 29, 30, 31, 32, 33, 34, 35, 36, 37, 38, 39, 40, 41, 42, 43] [0, 1, 2, 3, 4, 5, 6, 7, 8, 9, 10, 11, 12, 13, 14, 15, 16, 17, 18, 19, 20, 43, 21, 22, 23, 24, 25, 26, 27, 28, 29, 30, 31, 32, 33, 34, 35, 36, 37, 38, 39, 40, 41, 42] rfl rfl rfl rfl rfl rfl rfl rfl rfl (Nat.le_of_ble_eq_true rfl) ⟨Nat.zero_le _, Nat.zero_le _⟩ dX7_run_72 rfl rfl ?_
      refine w_aload_n (pc2 := 76) G 1 rfl dX7_run_75 rfl rfl ?_
      refine w_get (pc2 := 79) G foX7_16 0 rfl rfl dX7_run_76 rfl ?_
      refine w_aload_n (pc2 := 80) G 1 rfl dX7_run_79 rfl rfl ?_
      refine w_get (pc2 := 83) G foX7_50 0 rfl rfl dX7_run_80 rfl ?_
      obtain ⟨x2, H_x2, h⟩ := bs h
      refine w_cV1 (pc2 := 86) (ws2 := (wX7 E a o c_now_keys c_now_seed c_drawn_keys c_drawn_seed c_pad_signs c_pad_count c_sights_count c_sights_seeds c_img0_kept c_img0_world_keys c_img0_world_seed c_img0_sights_count c_img0_sights_seeds c_img1_kept c_img1_world_keys c_img1_world_seed c_img1_sights_count c_img1_sights_seeds x1.1 x1.2.1 x1.2.2.1 x1.2.2.2 c_trial_tb_left c_trial_tb_right c_trial_tb_parent c_trial_tb_span c_trial_tb_root c_trial_tb_digest c_trial_tb_height c_trial_tb_priority c_trial_tb_pricedBy c_trial_tb_open c_trial_ta_left c_trial_ta_right c_trial_ta_parent c_trial_ta_span c_trial_ta_root c_trial_ta_digest c_trial_ta_height c_trial_ta_priority c_trial_ta_pricedBy c_trial_ta_open c_trial_after_keys c_trial_after_seed c_trial_before_keys c_trial_before_seed c_trial_acts c_trial_whyNot c_trial_work c_trial_alikeAct c_trial_alikePair)) (As := [.ref (a (o + 21))]) (rest := []) G koX7_235 (r_X6_whyNot (o := (o + 3)) (o1 := (o + 21)) H_x2) (Nat.le_of_ble_eq_true rfl) 6 rfl rfl [3, 4, 21] [0, 1, 2, 5, 6, 7, 8, 9, 10, 11, 12, 13, 14, 15, 16, 17, 18, 19, 20, 22, 23, 24, 25, 26, 27, 28, 29, 30, 31, 32, 33, 34, 35, 36, 37, 38, 39, 40, 41, 42, 43] [0, 1, 2, 41, 42, 3, 4, 5, 6, 7, 8, 9, 10, 11, 12, 13, 14, 15, 16, 17, 18, 43, 19, 20, 21, 22, 23, 24, 25, 26, 27, 28, 29, 30, 31, 32, 33, 34, 35, 36, 37, 38, 39, 40] rfl rfl rfl rfl rfl rfl rfl rfl rfl (Nat.le_of_ble_eq_true rfl) ⟨Nat.zero_le _, Nat.zero_le _⟩ dX7_run_83 rfl rfl ?_
      refine w_if_ne (tgt := 100) (pc2 := 89) G dX7_run_86 (by decide) rfl (fun cc => ?_) (fun cc => ?_)
      · replace h := (if_neg cc).symm.trans h
        refine w_iinc (pc2 := 103) (lv2 := [(5, .int (l5 + (1 : Int32))), (4, .int ((((75 : Int32) * l4) + (74 : Int32)) - (((75 : Int32) * l4) + (74 : Int32)) / (65537 : Int32) * (65537 : Int32))), (0, .ref (a o)), (2, .int l2), (3, .int l3)]) G 4 rfl dX7_run_100 k_iconst_1 (Nat.le_of_ble_eq_true rfl) rfl rfl ?_
        refine w_goto (tgt := 47) G dX7_run_103 (by decide) ?_
        exact w_lv [2, 3, 4, 1, 0] rfl (ih _ _ _ _ _ _ _ _ _ _ h K)
      · replace h := (if_pos cc).symm.trans h
        refine w_aload_n (pc2 := 90) G 1 rfl dX7_run_89 rfl rfl ?_
        refine w_get (pc2 := 93) G foX7_16 0 rfl rfl dX7_run_90 rfl ?_
        refine w_aload_n (pc2 := 94) G 1 rfl dX7_run_93 rfl rfl ?_
        refine w_get (pc2 := 97) G foX7_50 0 rfl rfl dX7_run_94 rfl ?_
        obtain ⟨x3, H_x3, h⟩ := bs h
        refine w_cV1 (pc2 := 100) (ws2 := (wX7 E a o c_now_keys c_now_seed x3.1 x3.2 c_pad_signs c_pad_count c_sights_count c_sights_seeds c_img0_kept c_img0_world_keys c_img0_world_seed c_img0_sights_count c_img0_sights_seeds c_img1_kept c_img1_world_keys c_img1_world_seed c_img1_sights_count c_img1_sights_seeds x1.1 x1.2.1 x1.2.2.1 x1.2.2.2 c_trial_tb_left c_trial_tb_right c_trial_tb_parent c_trial_tb_span c_trial_tb_root c_trial_tb_digest c_trial_tb_height c_trial_tb_priority c_trial_tb_pricedBy c_trial_tb_open c_trial_ta_left c_trial_ta_right c_trial_ta_parent c_trial_ta_span c_trial_ta_root c_trial_ta_digest c_trial_ta_height c_trial_ta_priority c_trial_ta_pricedBy c_trial_ta_open c_trial_after_keys c_trial_after_seed c_trial_before_keys c_trial_before_seed c_trial_acts c_trial_whyNot c_trial_work c_trial_alikeAct c_trial_alikePair)) (As := [.ref (a (o + 21))]) (rest := []) G koX7_238 (r_X6_play (o := (o + 3)) (o1 := (o + 21)) H_x3) (Nat.le_of_ble_eq_true rfl) 6 rfl rfl [3, 4, 21] [0, 1, 2, 5, 6, 7, 8, 9, 10, 11, 12, 13, 14, 15, 16, 17, 18, 19, 20, 22, 23, 24, 25, 26, 27, 28, 29, 30, 31, 32, 33, 34, 35, 36, 37, 38, 39, 40, 41, 42, 43] [0, 1, 2, 41, 42, 3, 4, 5, 6, 7, 8, 9, 10, 11, 12, 13, 14, 15, 16, 17, 18, 43, 19, 20, 21, 22, 23, 24, 25, 26, 27, 28, 29, 30, 31, 32, 33, 34, 35, 36, 37, 38, 39, 40] rfl rfl rfl rfl rfl rfl rfl rfl rfl (Nat.le_of_ble_eq_true rfl) ⟨Nat.zero_le _, Nat.zero_le _⟩ dX7_run_97 rfl rfl ?_
        refine w_iinc (pc2 := 103) (lv2 := [(5, .int (l5 + (1 : Int32))), (4, .int ((((75 : Int32) * l4) + (74 : Int32)) - (((75 : Int32) * l4) + (74 : Int32)) / (65537 : Int32) * (65537 : Int32))), (0, .ref (a o)), (2, .int l2), (3, .int l3)]) G 4 rfl dX7_run_100 k_iconst_1 (Nat.le_of_ble_eq_true rfl) rfl rfl ?_
        refine w_goto (tgt := 47) G dX7_run_103 (by decide) ?_
        exact w_lv [2, 3, 4, 1, 0] rfl (ih _ _ _ _ _ _ _ _ _ _ h K)
set_option maxHeartbeats 4000000 in
set_option maxRecDepth 100000 in
theorem r_X7_run {l : Launch} {E : EV} {a : Nat → Nat} {o : Nat} {c_now_keys : Nat → Int64} {c_now_seed : Int32} {c_drawn_keys : Nat → Int64} {c_drawn_seed : Int32} {c_pad_signs : Nat → Int32} {c_pad_count c_sights_count : Int32} {c_sights_seeds : Nat → Int64} {c_img0_kept : Int32} {c_img0_world_keys : Nat → Int64} {c_img0_world_seed c_img0_sights_count : Int32} {c_img0_sights_seeds : Nat → Int64} {c_img1_kept : Int32} {c_img1_world_keys : Nat → Int64} {c_img1_world_seed c_img1_sights_count : Int32} {c_img1_sights_seeds : Nat → Int64} {c_trial_act_kind c_trial_act_set c_trial_act_key c_trial_act_other : Int32} {c_trial_tb_left c_trial_tb_right c_trial_tb_parent : Nat → Int32} {c_trial_tb_span : Nat → Int64} {c_trial_tb_root : Int32} {c_trial_tb_digest c_trial_tb_height c_trial_tb_priority : Nat → Int32} {c_trial_tb_pricedBy : Int32} {c_trial_tb_open c_trial_ta_left c_trial_ta_right c_trial_ta_parent : Nat → Int32} {c_trial_ta_span : Nat → Int64} {c_trial_ta_root : Int32} {c_trial_ta_digest c_trial_ta_height c_trial_ta_priority : Nat → Int32} {c_trial_ta_pricedBy : Int32} {c_trial_ta_open : Nat → Int32} {c_trial_after_keys : Nat → Int64} {c_trial_after_seed : Int32} {c_trial_before_keys : Nat → Int64} {c_trial_before_seed c_trial_acts c_trial_whyNot c_trial_work c_trial_alikeAct c_trial_alikePair : Int32} {l1 : Int32} {l2 : Int32} {l3 : Int32} {R : Int32 × (Nat → Int64) × Int32 × Int32 × Int32 × Int32 × Int32 × (Nat → Int32) × (Nat → Int32) × (Nat → Int32) × (Nat → Int64) × Int32 × (Nat → Int32) × (Nat → Int32) × (Nat → Int32) × Int32 × (Nat → Int32)} (h : f_X7_run c_now_keys c_now_seed c_drawn_keys c_drawn_seed c_trial_act_kind c_trial_act_set c_trial_act_key c_trial_act_other c_trial_tb_left c_trial_tb_right c_trial_tb_parent c_trial_tb_span c_trial_tb_root c_trial_tb_digest c_trial_tb_height c_trial_tb_priority c_trial_tb_pricedBy c_trial_tb_open l1 l2 l3 = some R) : Ret1 l E yX7_run cX7_run 6 (some .int) 4 (wX7 E a o c_now_keys c_now_seed c_drawn_keys c_drawn_seed c_pad_signs c_pad_count c_sights_count c_sights_seeds c_img0_kept c_img0_world_keys c_img0_world_seed c_img0_sights_count c_img0_sights_seeds c_img1_kept c_img1_world_keys c_img1_world_seed c_img1_sights_count c_img1_sights_seeds c_trial_act_kind c_trial_act_set c_trial_act_key c_trial_act_other c_trial_tb_left c_trial_tb_right c_trial_tb_parent c_trial_tb_span c_trial_tb_root c_trial_tb_digest c_trial_tb_height c_trial_tb_priority c_trial_tb_pricedBy c_trial_tb_open c_trial_ta_left c_trial_ta_right c_trial_ta_parent c_trial_ta_span c_trial_ta_root c_trial_ta_digest c_trial_ta_height c_trial_ta_priority c_trial_ta_pricedBy c_trial_ta_open c_trial_after_keys c_trial_after_seed c_trial_before_keys c_trial_before_seed c_trial_acts c_trial_whyNot c_trial_work c_trial_alikeAct c_trial_alikePair) [.ref (a o), .int l1, .int l2, .int l3] (some (.int R.1)) (wX7 E a o c_now_keys c_now_seed R.2.1 R.2.2.1 c_pad_signs c_pad_count c_sights_count c_sights_seeds c_img0_kept c_img0_world_keys c_img0_world_seed c_img0_sights_count c_img0_sights_seeds c_img1_kept c_img1_world_keys c_img1_world_seed c_img1_sights_count c_img1_sights_seeds R.2.2.2.1 R.2.2.2.2.1 R.2.2.2.2.2.1 R.2.2.2.2.2.2.1 R.2.2.2.2.2.2.2.1 R.2.2.2.2.2.2.2.2.1 R.2.2.2.2.2.2.2.2.2.1 R.2.2.2.2.2.2.2.2.2.2.1 R.2.2.2.2.2.2.2.2.2.2.2.1 R.2.2.2.2.2.2.2.2.2.2.2.2.1 R.2.2.2.2.2.2.2.2.2.2.2.2.2.1 R.2.2.2.2.2.2.2.2.2.2.2.2.2.2.1 R.2.2.2.2.2.2.2.2.2.2.2.2.2.2.2.1 R.2.2.2.2.2.2.2.2.2.2.2.2.2.2.2.2 c_trial_ta_left c_trial_ta_right c_trial_ta_parent c_trial_ta_span c_trial_ta_root c_trial_ta_digest c_trial_ta_height c_trial_ta_priority c_trial_ta_pricedBy c_trial_ta_open c_trial_after_keys c_trial_after_seed c_trial_before_keys c_trial_before_seed c_trial_acts c_trial_whyNot c_trial_work c_trial_alikeAct c_trial_alikePair) := by
  refine Ret.intro (lv := [(0, .ref (a o)), (1, .int l1), (2, .int l2), (3, .int l3)]) (by decide) (Nat.le_of_ble_eq_true rfl) rfl ?_
  intro g hgl G hQ
  subst hgl
  rw [f_X7_run] at h
  refine w_iload_n (pc2 := 1) G 1 rfl dX7_run_0 rfl rfl ?_
  obtain ⟨x1, H_x1, h⟩ := bs h
  refine w_cS0 (pc2 := 4) (As := [.int l1]) (rest := []) G koX7_65 (r_X7_isSeed H_x1) (Nat.le_of_ble_eq_true rfl) rfl rfl (Nat.le_of_ble_eq_true rfl) ⟨Nat.zero_le _, Nat.zero_le _⟩ dX7_run_1 rfl rfl ?_
  refine w_if_eq (tgt := 27) (pc2 := 7) G dX7_run_4 (by decide) rfl (fun cc => ?_) (fun cc => ?_)
  · replace h := (if_pos cc).symm.trans h
    refine w_bipush (pc2 := 29) G dX7_run_27 k_bipush_m2 rfl ?_
    cases h
    exact w_iret G hQ rfl ⟨rfl, rfl⟩ dX7_run_29
  · replace h := (if_neg cc).symm.trans h
    refine w_iload_n (pc2 := 8) G 2 rfl dX7_run_7 rfl rfl ?_
    refine w_iconst (pc2 := 9) G dX7_run_8 k_iconst_1 rfl ?_
    refine w_icmp_lt (tgt := 27) (pc2 := 12) G dX7_run_9 (by decide) rfl (fun cc => ?_) (fun cc => ?_)
    · replace h := (if_pos cc).symm.trans h
      refine w_bipush (pc2 := 29) G dX7_run_27 k_bipush_m2 rfl ?_
      cases h
      exact w_iret G hQ rfl ⟨rfl, rfl⟩ dX7_run_29
    · replace h := (if_neg cc).symm.trans h
      refine w_iload_n (pc2 := 13) G 2 rfl dX7_run_12 rfl rfl ?_
      refine w_bipush (pc2 := 15) G dX7_run_13 k_bipush_99 rfl ?_
      refine w_icmp_gt (tgt := 27) (pc2 := 18) G dX7_run_15 (by decide) rfl (fun cc => ?_) (fun cc => ?_)
      · replace h := (if_pos cc).symm.trans h
        refine w_bipush (pc2 := 29) G dX7_run_27 k_bipush_m2 rfl ?_
        cases h
        exact w_iret G hQ rfl ⟨rfl, rfl⟩ dX7_run_29
      · replace h := (if_neg cc).symm.trans h
        refine w_iload_n (pc2 := 19) G 3 rfl dX7_run_18 rfl rfl ?_
        refine w_if_lt (tgt := 27) (pc2 := 22) G dX7_run_19 (by decide) rfl (fun cc => ?_) (fun cc => ?_)
        · replace h := (if_pos cc).symm.trans h
          refine w_bipush (pc2 := 29) G dX7_run_27 k_bipush_m2 rfl ?_
          cases h
          exact w_iret G hQ rfl ⟨rfl, rfl⟩ dX7_run_29
        · replace h := (if_neg cc).symm.trans h
          refine w_iload_n (pc2 := 23) G 3 rfl dX7_run_22 rfl rfl ?_
          refine w_iconst (pc2 := 24) G dX7_run_23 k_iconst_2 rfl ?_
          refine w_icmp_le (tgt := 30) (pc2 := 27) G dX7_run_24 (by decide) rfl (fun cc => ?_) (fun cc => ?_)
          · replace h := (if_pos cc).symm.trans h
            refine w_aload_n (pc2 := 31) G 0 rfl dX7_run_30 rfl rfl ?_
            refine w_get (pc2 := 34) G foX7_16 0 rfl rfl dX7_run_31 rfl ?_
            refine w_aload_n (pc2 := 35) G 0 rfl dX7_run_34 rfl rfl ?_
            refine w_get (pc2 := 38) G foX7_10 0 rfl rfl dX7_run_35 rfl ?_
            obtain ⟨x2, H_x2, h⟩ := bs h
            refine w_cV1 (pc2 := 41) (ws2 := (wX7 E a o c_now_keys c_now_seed x2.1 x2.2 c_pad_signs c_pad_count c_sights_count c_sights_seeds c_img0_kept c_img0_world_keys c_img0_world_seed c_img0_sights_count c_img0_sights_seeds c_img1_kept c_img1_world_keys c_img1_world_seed c_img1_sights_count c_img1_sights_seeds c_trial_act_kind c_trial_act_set c_trial_act_key c_trial_act_other c_trial_tb_left c_trial_tb_right c_trial_tb_parent c_trial_tb_span c_trial_tb_root c_trial_tb_digest c_trial_tb_height c_trial_tb_priority c_trial_tb_pricedBy c_trial_tb_open c_trial_ta_left c_trial_ta_right c_trial_ta_parent c_trial_ta_span c_trial_ta_root c_trial_ta_digest c_trial_ta_height c_trial_ta_priority c_trial_ta_pricedBy c_trial_ta_open c_trial_after_keys c_trial_after_seed c_trial_before_keys c_trial_before_seed c_trial_acts c_trial_whyNot c_trial_work c_trial_alikeAct c_trial_alikePair)) (As := [.ref (a (o + 1))]) (rest := []) G koX7_149 (r_X6_copy (o := (o + 3)) (o1 := (o + 1)) H_x2) (Nat.le_of_ble_eq_true rfl) 6 rfl rfl [3, 4, 1, 2] [0, 5, 6, 7, 8, 9, 10, 11, 12, 13, 14, 15, 16, 17, 18, 19, 20, 21, 22, 23, 24, 25, 26, 27, 28, 29, 30, 31, 32, 33, 34, 35, 36, 37, 38, 39, 40, 41, 42, 43] [0, 42, 43, 40, 41, 1, 2, 3, 4, 5, 6, 7, 8, 9, 10, 11, 12, 13, 14, 15, 16, 17, 18, 19, 20, 21, 22, 23, 24, 25, 26, 27, 28, 29, 30, 31, 32, 33, 34, 35, 36, 37, 38, 39] rfl rfl rfl rfl rfl rfl rfl rfl rfl (Nat.le_of_ble_eq_true rfl) ⟨Nat.zero_le _, Nat.zero_le _⟩ dX7_run_38 rfl rfl ?_
            refine w_iload_n (pc2 := 42) G 1 rfl dX7_run_41 rfl rfl ?_
            refine w_istore (pc2 := 44) (lv2 := [(4, .int l1), (0, .ref (a o)), (1, .int l1), (2, .int l2), (3, .int l3)]) G dX7_run_42 (Nat.le_of_ble_eq_true rfl) rfl rfl ?_
            refine w_iconst (pc2 := 45) G dX7_run_44 k_iconst_0 rfl ?_
            refine w_istore (pc2 := 47) (lv2 := [(5, .int (0 : Int32)), (4, .int l1), (0, .ref (a o)), (1, .int l1), (2, .int l2), (3, .int l3)]) G dX7_run_45 (Nat.le_of_ble_eq_true rfl) rfl rfl ?_
            obtain ⟨x3, h0, h⟩ := bs h
            have K_x3 : WW g E 6 0 0 (wX7 E a o c_now_keys c_now_seed x3.1 x3.2.1 c_pad_signs c_pad_count c_sights_count c_sights_seeds c_img0_kept c_img0_world_keys c_img0_world_seed c_img0_sights_count c_img0_sights_seeds c_img1_kept c_img1_world_keys c_img1_world_seed c_img1_sights_count c_img1_sights_seeds x3.2.2.1 x3.2.2.2.1 x3.2.2.2.2.1 x3.2.2.2.2.2 c_trial_tb_left c_trial_tb_right c_trial_tb_parent c_trial_tb_span c_trial_tb_root c_trial_tb_digest c_trial_tb_height c_trial_tb_priority c_trial_tb_pricedBy c_trial_tb_open c_trial_ta_left c_trial_ta_right c_trial_ta_parent c_trial_ta_span c_trial_ta_root c_trial_ta_digest c_trial_ta_height c_trial_ta_priority c_trial_ta_pricedBy c_trial_ta_open c_trial_after_keys c_trial_after_seed c_trial_before_keys c_trial_before_seed c_trial_acts c_trial_whyNot c_trial_work c_trial_alikeAct c_trial_alikePair) [(0, .ref (a o)), (3, .int l3)] 106 [] := by
              clear h0
              refine w_iload_n (pc2 := 107) G 1 rfl dX7_run_106 rfl rfl ?_
              by_cases sdX7_run_107_0 : l3 = (0 : Int32)
              · replace h := (if_pos sdX7_run_107_0).symm.trans h
                refine w_look (tgt := 132) G dX7_run_107 (by decide) (by rw [sdX7_run_107_0] <;> rfl) (by decide) ?_
                refine w_aload_n (pc2 := 133) G 0 rfl dX7_run_132 rfl rfl ?_
                refine w_aload_n (pc2 := 134) G 0 rfl dX7_run_133 rfl rfl ?_
                refine w_get (pc2 := 137) G foX7_16 0 rfl rfl dX7_run_134 rfl ?_
                refine w_get (pc2 := 140) G foX7_79 3 rfl rfl dX7_run_137 rfl ?_
                refine w_iconst (pc2 := 141) G dX7_run_140 k_iconst_0 rfl ?_
                obtain ⟨v4, H_v4, h⟩ := bs h
                refine w_laldo (pc2 := 142) G 4 rfl H_v4 dX7_run_141 rfl ?_
                refine w_aload_n (pc2 := 143) G 0 rfl dX7_run_142 rfl rfl ?_
                refine w_get (pc2 := 146) G foX7_16 0 rfl rfl dX7_run_143 rfl ?_
                refine w_get (pc2 := 149) G foX7_69 3 rfl rfl dX7_run_146 rfl ?_
                obtain ⟨x5, H_x5, h⟩ := bs h
                refine w_cV0 (pc2 := 152) (ws2 := (wX7 E a o c_now_keys c_now_seed x3.1 x3.2.1 c_pad_signs c_pad_count c_sights_count c_sights_seeds c_img0_kept c_img0_world_keys c_img0_world_seed c_img0_sights_count c_img0_sights_seeds c_img1_kept c_img1_world_keys c_img1_world_seed c_img1_sights_count c_img1_sights_seeds x3.2.2.1 x3.2.2.2.1 x3.2.2.2.2.1 x3.2.2.2.2.2 x5.2.1 x5.2.2.1 x5.2.2.2.1 x5.2.2.2.2.1 x5.2.2.2.2.2.1 x5.2.2.2.2.2.2.1 x5.2.2.2.2.2.2.2.1 x5.2.2.2.2.2.2.2.2.1 x5.2.2.2.2.2.2.2.2.2.1 x5.2.2.2.2.2.2.2.2.2.2 c_trial_ta_left c_trial_ta_right c_trial_ta_parent c_trial_ta_span c_trial_ta_root c_trial_ta_digest c_trial_ta_height c_trial_ta_priority c_trial_ta_pricedBy c_trial_ta_open c_trial_after_keys c_trial_after_seed c_trial_before_keys c_trial_before_seed c_trial_acts c_trial_whyNot c_trial_work c_trial_alikeAct c_trial_alikePair)) (As := [.long v4, .int x3.2.1]) (rest := []) G koX7_241 (r_X7_digest H_x5) (Nat.le_of_ble_eq_true rfl) 7 rfl rfl rfl rfl (Nat.le_of_ble_eq_true rfl) ⟨Nat.zero_le _, Nat.zero_le _⟩ dX7_run_149 rfl rfl ?_
                cases h
                exact w_iret G hQ rfl ⟨rfl, rfl⟩ dX7_run_152
              replace h := (if_neg sdX7_run_107_0).symm.trans h
              by_cases sdX7_run_107_1 : l3 = (1 : Int32)
              · replace h := (if_pos sdX7_run_107_1).symm.trans h
                refine w_look (tgt := 153) G dX7_run_107 (by decide) (by rw [sdX7_run_107_1] <;> rfl) (by decide) ?_
                refine w_aload_n (pc2 := 154) G 0 rfl dX7_run_153 rfl rfl ?_
                refine w_get (pc2 := 157) G foX7_16 0 rfl rfl dX7_run_154 rfl ?_
                obtain ⟨x6, H_x6, h⟩ := bs h
                refine w_cV1 (pc2 := 160) (ws2 := (wX7 E a o c_now_keys c_now_seed x3.1 x3.2.1 c_pad_signs c_pad_count c_sights_count c_sights_seeds c_img0_kept c_img0_world_keys c_img0_world_seed c_img0_sights_count c_img0_sights_seeds c_img1_kept c_img1_world_keys c_img1_world_seed c_img1_sights_count c_img1_sights_seeds x3.2.2.1 x3.2.2.2.1 x3.2.2.2.2.1 x3.2.2.2.2.2 c_trial_tb_left c_trial_tb_right c_trial_tb_parent c_trial_tb_span c_trial_tb_root c_trial_tb_digest c_trial_tb_height c_trial_tb_priority c_trial_tb_pricedBy c_trial_tb_open c_trial_ta_left c_trial_ta_right c_trial_ta_parent c_trial_ta_span c_trial_ta_root c_trial_ta_digest c_trial_ta_height c_trial_ta_priority c_trial_ta_pricedBy c_trial_ta_open c_trial_after_keys c_trial_after_seed c_trial_before_keys c_trial_before_seed c_trial_acts c_trial_whyNot c_trial_work c_trial_alikeAct c_trial_alikePair)) (As := []) (rest := []) G koX7_244 (r_X6_countAll (o := (o + 3)) H_x6) (Nat.le_of_ble_eq_true rfl) 6 rfl rfl [3, 4] [0, 1, 2, 5, 6, 7, 8, 9, 10, 11, 12, 13, 14, 15, 16, 17, 18, 19, 20, 21, 22, 23, 24, 25, 26, 27, 28, 29, 30, 31, 32, 33, 34, 35, 36, 37, 38, 39, 40, 41, 42, 43] [0, 1, 2, 42, 43, 3, 4, 5, 6, 7, 8, 9, 10, 11, 12, 13, 14, 15, 16, 17, 18, 19, 20, 21, 22, 23, 24, 25, 26, 27, 28, 29, 30, 31, 32, 33, 34, 35, 36, 37, 38, 39, 40, 41] rfl rfl rfl rfl rfl rfl rfl rfl rfl (Nat.le_of_ble_eq_true rfl) ⟨Nat.zero_le _, Nat.zero_le _⟩ dX7_run_157 rfl rfl ?_
                cases h
                exact w_iret G hQ rfl ⟨rfl, rfl⟩ dX7_run_160
              replace h := (if_neg sdX7_run_107_1).symm.trans h
              refine w_look (tgt := 161) G dX7_run_107 (by decide) (look_out (by have e0 := ne_ti sdX7_run_107_0; have e1 := ne_ti sdX7_run_107_1; simp only [List.all_cons, List.all_nil, Bool.and_true, Bool.and_eq_true, decide_eq_true_eq]; exact ⟨e0, e1⟩)) (by decide) ?_
              refine w_aload_n (pc2 := 162) G 0 rfl dX7_run_161 rfl rfl ?_
              refine w_get (pc2 := 165) G foX7_16 0 rfl rfl dX7_run_162 rfl ?_
              refine w_get (pc2 := 168) G foX7_69 3 rfl rfl dX7_run_165 rfl ?_
              cases h
              exact w_iret G hQ rfl ⟨rfl, rfl⟩ dX7_run_168
            exact w_lv [2, 4, 5, 1, 0] rfl (lp_X7_run_47 G 20000 _ _ _ _ _ _ _ _ _ _ h0 (w_lv [0, 1] rfl K_x3))
          · replace h := (if_neg cc).symm.trans h
            refine w_bipush (pc2 := 29) G dX7_run_27 k_bipush_m2 rfl ?_
            cases h
            exact w_iret G hQ rfl ⟨rfl, rfl⟩ dX7_run_29

set_option maxHeartbeats 4000000 in
set_option maxRecDepth 100000 in
theorem r_X7_image {l : Launch} {E : EV} {a : Nat → Nat} {o : Nat} {c_now_keys : Nat → Int64} {c_now_seed : Int32} {c_drawn_keys : Nat → Int64} {c_drawn_seed : Int32} {c_pad_signs : Nat → Int32} {c_pad_count c_sights_count : Int32} {c_sights_seeds : Nat → Int64} {c_img0_kept : Int32} {c_img0_world_keys : Nat → Int64} {c_img0_world_seed c_img0_sights_count : Int32} {c_img0_sights_seeds : Nat → Int64} {c_img1_kept : Int32} {c_img1_world_keys : Nat → Int64} {c_img1_world_seed c_img1_sights_count : Int32} {c_img1_sights_seeds : Nat → Int64} {c_trial_act_kind c_trial_act_set c_trial_act_key c_trial_act_other : Int32} {c_trial_tb_left c_trial_tb_right c_trial_tb_parent : Nat → Int32} {c_trial_tb_span : Nat → Int64} {c_trial_tb_root : Int32} {c_trial_tb_digest c_trial_tb_height c_trial_tb_priority : Nat → Int32} {c_trial_tb_pricedBy : Int32} {c_trial_tb_open c_trial_ta_left c_trial_ta_right c_trial_ta_parent : Nat → Int32} {c_trial_ta_span : Nat → Int64} {c_trial_ta_root : Int32} {c_trial_ta_digest c_trial_ta_height c_trial_ta_priority : Nat → Int32} {c_trial_ta_pricedBy : Int32} {c_trial_ta_open : Nat → Int32} {c_trial_after_keys : Nat → Int64} {c_trial_after_seed : Int32} {c_trial_before_keys : Nat → Int64} {c_trial_before_seed c_trial_acts c_trial_whyNot c_trial_work c_trial_alikeAct c_trial_alikePair : Int32} {l1 : Int32} {R : Int32 × Int32 × (Nat → Int64) × Int32 × Int32 × (Nat → Int64) × Int32 × (Nat → Int64) × Int32 × Int32 × (Nat → Int64)} (h : f_X7_image c_now_keys c_now_seed c_sights_count c_sights_seeds c_img0_kept c_img0_world_keys c_img0_world_seed c_img0_sights_count c_img0_sights_seeds c_img1_kept c_img1_world_keys c_img1_world_seed c_img1_sights_count c_img1_sights_seeds l1 = some R) : Ret1 l E yX7_image cX7_image 2 (some .int) 2 (wX7 E a o c_now_keys c_now_seed c_drawn_keys c_drawn_seed c_pad_signs c_pad_count c_sights_count c_sights_seeds c_img0_kept c_img0_world_keys c_img0_world_seed c_img0_sights_count c_img0_sights_seeds c_img1_kept c_img1_world_keys c_img1_world_seed c_img1_sights_count c_img1_sights_seeds c_trial_act_kind c_trial_act_set c_trial_act_key c_trial_act_other c_trial_tb_left c_trial_tb_right c_trial_tb_parent c_trial_tb_span c_trial_tb_root c_trial_tb_digest c_trial_tb_height c_trial_tb_priority c_trial_tb_pricedBy c_trial_tb_open c_trial_ta_left c_trial_ta_right c_trial_ta_parent c_trial_ta_span c_trial_ta_root c_trial_ta_digest c_trial_ta_height c_trial_ta_priority c_trial_ta_pricedBy c_trial_ta_open c_trial_after_keys c_trial_after_seed c_trial_before_keys c_trial_before_seed c_trial_acts c_trial_whyNot c_trial_work c_trial_alikeAct c_trial_alikePair) [.ref (a o), .int l1] (some (.int R.1)) (wX7 E a o c_now_keys c_now_seed c_drawn_keys c_drawn_seed c_pad_signs c_pad_count c_sights_count c_sights_seeds R.2.1 R.2.2.1 R.2.2.2.1 R.2.2.2.2.1 R.2.2.2.2.2.1 R.2.2.2.2.2.2.1 R.2.2.2.2.2.2.2.1 R.2.2.2.2.2.2.2.2.1 R.2.2.2.2.2.2.2.2.2.1 R.2.2.2.2.2.2.2.2.2.2 c_trial_act_kind c_trial_act_set c_trial_act_key c_trial_act_other c_trial_tb_left c_trial_tb_right c_trial_tb_parent c_trial_tb_span c_trial_tb_root c_trial_tb_digest c_trial_tb_height c_trial_tb_priority c_trial_tb_pricedBy c_trial_tb_open c_trial_ta_left c_trial_ta_right c_trial_ta_parent c_trial_ta_span c_trial_ta_root c_trial_ta_digest c_trial_ta_height c_trial_ta_priority c_trial_ta_pricedBy c_trial_ta_open c_trial_after_keys c_trial_after_seed c_trial_before_keys c_trial_before_seed c_trial_acts c_trial_whyNot c_trial_work c_trial_alikeAct c_trial_alikePair) := by
  refine Ret.intro (lv := [(0, .ref (a o)), (1, .int l1)]) (by decide) (Nat.le_of_ble_eq_true rfl) rfl ?_
  intro g hgl G hQ
  subst hgl
  rw [f_X7_image] at h
  refine w_iload_n (pc2 := 1) G 1 rfl dX7_image_0 rfl rfl ?_
  refine w_if_lt (tgt := 9) (pc2 := 4) G dX7_image_1 (by decide) rfl (fun cc => ?_) (fun cc => ?_)
  · replace h := (if_pos cc).symm.trans h
    refine w_bipush (pc2 := 11) G dX7_image_9 k_bipush_m2 rfl ?_
    cases h
    exact w_iret G hQ rfl ⟨rfl, rfl⟩ dX7_image_11
  · replace h := (if_neg cc).symm.trans h
    refine w_iload_n (pc2 := 5) G 1 rfl dX7_image_4 rfl rfl ?_
    refine w_iconst (pc2 := 6) G dX7_image_5 k_iconst_2 rfl ?_
    refine w_icmp_lt (tgt := 12) (pc2 := 9) G dX7_image_6 (by decide) rfl (fun cc => ?_) (fun cc => ?_)
    · replace h := (if_pos cc).symm.trans h
      refine w_aload_n (pc2 := 13) G 0 rfl dX7_image_12 rfl rfl ?_
      refine w_get (pc2 := 16) G foX7_35 0 rfl rfl dX7_image_13 rfl ?_
      refine w_iload_n (pc2 := 17) G 1 rfl dX7_image_16 rfl rfl ?_
      by_cases s0 : l1 = (0 : Int32)
      · replace h := (if_pos s0).symm.trans h
        subst s0
        refine w_aaload (pc2 := 18) (v := (a (o + 10))) G 9 rfl (by unfold vp_in; decide) rfl dX7_image_17 rfl ?_
        refine w_iconst (pc2 := 19) G dX7_image_18 k_iconst_1 rfl ?_
        refine w_put (pc2 := 22) (ws2 := (wX7 E a o c_now_keys c_now_seed c_drawn_keys c_drawn_seed c_pad_signs c_pad_count c_sights_count c_sights_seeds (1 : Int32) c_img0_world_keys c_img0_world_seed c_img0_sights_count c_img0_sights_seeds c_img1_kept c_img1_world_keys c_img1_world_seed c_img1_sights_count c_img1_sights_seeds c_trial_act_kind c_trial_act_set c_trial_act_key c_trial_act_other c_trial_tb_left c_trial_tb_right c_trial_tb_parent c_trial_tb_span c_trial_tb_root c_trial_tb_digest c_trial_tb_height c_trial_tb_priority c_trial_tb_pricedBy c_trial_tb_open c_trial_ta_left c_trial_ta_right c_trial_ta_parent c_trial_ta_span c_trial_ta_root c_trial_ta_digest c_trial_ta_height c_trial_ta_priority c_trial_ta_pricedBy c_trial_ta_open c_trial_after_keys c_trial_after_seed c_trial_before_keys c_trial_before_seed c_trial_acts c_trial_whyNot c_trial_work c_trial_alikeAct c_trial_alikePair)) G foX7_247 tokX1 10 rfl rfl (nar_z (Or.inr rfl)) (fit_z (Or.inr rfl)) (Nat.le_of_ble_eq_true rfl) rfl dX7_image_19 rfl ?_
        refine w_aload_n (pc2 := 23) G 0 rfl dX7_image_22 rfl rfl ?_
        refine w_get (pc2 := 26) G foX7_35 0 rfl rfl dX7_image_23 rfl ?_
        refine w_iload_n (pc2 := 27) G 1 rfl dX7_image_26 rfl rfl ?_
        refine w_aaload (pc2 := 28) (v := (a (o + 10))) G 9 rfl (by unfold vp_in; decide) rfl dX7_image_27 rfl ?_
        refine w_get (pc2 := 31) G foX7_251 10 rfl rfl dX7_image_28 rfl ?_
        refine w_aload_n (pc2 := 32) G 0 rfl dX7_image_31 rfl rfl ?_
        refine w_get (pc2 := 35) G foX7_10 0 rfl rfl dX7_image_32 rfl ?_
        obtain ⟨x1, H_x1, h⟩ := bs h
        refine w_cV1 (pc2 := 38) (ws2 := (wX7 E a o c_now_keys c_now_seed c_drawn_keys c_drawn_seed c_pad_signs c_pad_count c_sights_count c_sights_seeds (1 : Int32) x1.1 x1.2 c_img0_sights_count c_img0_sights_seeds c_img1_kept c_img1_world_keys c_img1_world_seed c_img1_sights_count c_img1_sights_seeds c_trial_act_kind c_trial_act_set c_trial_act_key c_trial_act_other c_trial_tb_left c_trial_tb_right c_trial_tb_parent c_trial_tb_span c_trial_tb_root c_trial_tb_digest c_trial_tb_height c_trial_tb_priority c_trial_tb_pricedBy c_trial_tb_open c_trial_ta_left c_trial_ta_right c_trial_ta_parent c_trial_ta_span c_trial_ta_root c_trial_ta_digest c_trial_ta_height c_trial_ta_priority c_trial_ta_pricedBy c_trial_ta_open c_trial_after_keys c_trial_after_seed c_trial_before_keys c_trial_before_seed c_trial_acts c_trial_whyNot c_trial_work c_trial_alikeAct c_trial_alikePair)) (As := [.ref (a (o + 1))]) (rest := []) G koX7_149 (r_X6_copy (o := (o + 11)) (o1 := (o + 1)) H_x1) (Nat.le_of_ble_eq_true rfl) 6 rfl rfl [11, 12, 1, 2] [0, 3, 4, 5, 6, 7, 8, 9, 10, 13, 14, 15, 16, 17, 18, 19, 20, 21, 22, 23, 24, 25, 26, 27, 28, 29, 30, 31, 32, 33, 34, 35, 36, 37, 38, 39, 40, 41, 42, 43] [0, 42, 43, 1, 2, 3, 4, 5, 6, 7, 8, 40, 41, 9, 10, 11, 12, 13, 14, 15, 16, 17, 18, 19, 20, 21, 22, 23, 24, 25, 26, 27, 28, 29, 30, 31, 32, 33, 34, 35, 36, 37, 38, 39] rfl rfl rfl rfl rfl rfl rfl rfl rfl (Nat.le_of_ble_eq_true rfl) ⟨Nat.zero_le _, Nat.zero_le _⟩ dX7_image_35 rfl rfl ?_
        refine w_aload_n (pc2 := 39) G 0 rfl dX7_image_38 rfl rfl ?_
        refine w_get (pc2 := 42) G foX7_35 0 rfl rfl dX7_image_39 rfl ?_
        refine w_iload_n (pc2 := 43) G 1 rfl dX7_image_42 rfl rfl ?_
        refine w_aaload (pc2 := 44) (v := (a (o + 10))) G 9 rfl (by unfold vp_in; decide) rfl dX7_image_43 rfl ?_
        refine w_get (pc2 := 47) G foX7_254 10 rfl rfl dX7_image_44 rfl ?_
        refine w_aload_n (pc2 := 48) G 0 rfl dX7_image_47 rfl rfl ?_
        refine w_get (pc2 := 51) G foX7_29 0 rfl rfl dX7_image_48 rfl ?_
        obtain ⟨x2, H_x2, h⟩ := bs h
        refine w_cV1 (pc2 := 54) (ws2 := (wX7 E a o c_now_keys c_now_seed c_drawn_keys c_drawn_seed c_pad_signs c_pad_count c_sights_count c_sights_seeds (1 : Int32) x1.1 x1.2 x2.1 x2.2 c_img1_kept c_img1_world_keys c_img1_world_seed c_img1_sights_count c_img1_sights_seeds c_trial_act_kind c_trial_act_set c_trial_act_key c_trial_act_other c_trial_tb_left c_trial_tb_right c_trial_tb_parent c_trial_tb_span c_trial_tb_root c_trial_tb_digest c_trial_tb_height c_trial_tb_priority c_trial_tb_pricedBy c_trial_tb_open c_trial_ta_left c_trial_ta_right c_trial_ta_parent c_trial_ta_span c_trial_ta_root c_trial_ta_digest c_trial_ta_height c_trial_ta_priority c_trial_ta_pricedBy c_trial_ta_open c_trial_after_keys c_trial_after_seed c_trial_before_keys c_trial_before_seed c_trial_acts c_trial_whyNot c_trial_work c_trial_alikeAct c_trial_alikePair)) (As := [.ref (a (o + 7))]) (rest := []) G koX7_255 (r_X3_copy (o := (o + 13)) (o1 := (o + 7)) H_x2) (Nat.le_of_ble_eq_true rfl) 3 rfl rfl [13, 14, 7, 8] [0, 1, 2, 3, 4, 5, 6, 9, 10, 11, 12, 15, 16, 17, 18, 19, 20, 21, 22, 23, 24, 25, 26, 27, 28, 29, 30, 31, 32, 33, 34, 35, 36, 37, 38, 39, 40, 41, 42, 43] [0, 1, 2, 3, 4, 5, 6, 42, 43, 7, 8, 9, 10, 40, 41, 11, 12, 13, 14, 15, 16, 17, 18, 19, 20, 21, 22, 23, 24, 25, 26, 27, 28, 29, 30, 31, 32, 33, 34, 35, 36, 37, 38, 39] rfl rfl rfl rfl rfl rfl rfl rfl rfl (Nat.le_of_ble_eq_true rfl) ⟨Nat.zero_le _, Nat.zero_le _⟩ dX7_image_51 rfl rfl ?_
        refine w_iconst (pc2 := 55) G dX7_image_54 k_iconst_1 rfl ?_
        cases h
        exact w_iret G hQ rfl ⟨rfl, rfl⟩ dX7_image_55
      · replace h := (if_neg s0).symm.trans h
        by_cases s1 : l1 = (1 : Int32)
        · replace h := (if_pos s1).symm.trans h
          subst s1
          refine w_aaload (pc2 := 18) (v := (a (o + 15))) G 9 rfl (by unfold vp_in; decide) rfl dX7_image_17 rfl ?_
          refine w_iconst (pc2 := 19) G dX7_image_18 k_iconst_1 rfl ?_
          refine w_put (pc2 := 22) (ws2 := (wX7 E a o c_now_keys c_now_seed c_drawn_keys c_drawn_seed c_pad_signs c_pad_count c_sights_count c_sights_seeds c_img0_kept c_img0_world_keys c_img0_world_seed c_img0_sights_count c_img0_sights_seeds (1 : Int32) c_img1_world_keys c_img1_world_seed c_img1_sights_count c_img1_sights_seeds c_trial_act_kind c_trial_act_set c_trial_act_key c_trial_act_other c_trial_tb_left c_trial_tb_right c_trial_tb_parent c_trial_tb_span c_trial_tb_root c_trial_tb_digest c_trial_tb_height c_trial_tb_priority c_trial_tb_pricedBy c_trial_tb_open c_trial_ta_left c_trial_ta_right c_trial_ta_parent c_trial_ta_span c_trial_ta_root c_trial_ta_digest c_trial_ta_height c_trial_ta_priority c_trial_ta_pricedBy c_trial_ta_open c_trial_after_keys c_trial_after_seed c_trial_before_keys c_trial_before_seed c_trial_acts c_trial_whyNot c_trial_work c_trial_alikeAct c_trial_alikePair)) G foX7_247 tokX1 15 rfl rfl (nar_z (Or.inr rfl)) (fit_z (Or.inr rfl)) (Nat.le_of_ble_eq_true rfl) rfl dX7_image_19 rfl ?_
          refine w_aload_n (pc2 := 23) G 0 rfl dX7_image_22 rfl rfl ?_
          refine w_get (pc2 := 26) G foX7_35 0 rfl rfl dX7_image_23 rfl ?_
          refine w_iload_n (pc2 := 27) G 1 rfl dX7_image_26 rfl rfl ?_
          refine w_aaload (pc2 := 28) (v := (a (o + 15))) G 9 rfl (by unfold vp_in; decide) rfl dX7_image_27 rfl ?_
          refine w_get (pc2 := 31) G foX7_251 15 rfl rfl dX7_image_28 rfl ?_
          refine w_aload_n (pc2 := 32) G 0 rfl dX7_image_31 rfl rfl ?_
          refine w_get (pc2 := 35) G foX7_10 0 rfl rfl dX7_image_32 rfl ?_
          obtain ⟨x3, H_x3, h⟩ := bs h
          refine w_cV1 (pc2 := 38) (ws2 := (wX7 E a o c_now_keys c_now_seed c_drawn_keys c_drawn_seed c_pad_signs c_pad_count c_sights_count c_sights_seeds c_img0_kept c_img0_world_keys c_img0_world_seed c_img0_sights_count c_img0_sights_seeds (1 : Int32) x3.1 x3.2 c_img1_sights_count c_img1_sights_seeds c_trial_act_kind c_trial_act_set c_trial_act_key c_trial_act_other c_trial_tb_left c_trial_tb_right c_trial_tb_parent c_trial_tb_span c_trial_tb_root c_trial_tb_digest c_trial_tb_height c_trial_tb_priority c_trial_tb_pricedBy c_trial_tb_open c_trial_ta_left c_trial_ta_right c_trial_ta_parent c_trial_ta_span c_trial_ta_root c_trial_ta_digest c_trial_ta_height c_trial_ta_priority c_trial_ta_pricedBy c_trial_ta_open c_trial_after_keys c_trial_after_seed c_trial_before_keys c_trial_before_seed c_trial_acts c_trial_whyNot c_trial_work c_trial_alikeAct c_trial_alikePair)) (As := [.ref (a (o + 1))]) (rest := []) G koX7_149 (r_X6_copy (o := (o + 16)) (o1 := (o + 1)) H_x3) (Nat.le_of_ble_eq_true rfl) 6 rfl rfl [16, 17, 1, 2] [0, 3, 4, 5, 6, 7, 8, 9, 10, 11, 12, 13, 14, 15, 18, 19, 20, 21, 22, 23, 24, 25, 26, 27, 28, 29, 30, 31, 32, 33, 34, 35, 36, 37, 38, 39, 40, 41, 42, 43] [0, 42, 43, 1, 2, 3, 4, 5, 6, 7, 8, 9, 10, 11, 12, 13, 40, 41, 14, 15, 16, 17, 18, 19, 20, 21, 22, 23, 24, 25, 26, 27, 28, 29, 30, 31, 32, 33, 34, 35, 36, 37, 38, 39] rfl rfl rfl rfl rfl rfl rfl rfl rfl (Nat.le_of_ble_eq_true rfl) ⟨Nat.zero_le _, Nat.zero_le _⟩ dX7_image_35 rfl rfl ?_
          refine w_aload_n (pc2 := 39) G 0 rfl dX7_image_38 rfl rfl ?_
          refine w_get (pc2 := 42) G foX7_35 0 rfl rfl dX7_image_39 rfl ?_
          refine w_iload_n (pc2 := 43) G 1 rfl dX7_image_42 rfl rfl ?_
          refine w_aaload (pc2 := 44) (v := (a (o + 15))) G 9 rfl (by unfold vp_in; decide) rfl dX7_image_43 rfl ?_
          refine w_get (pc2 := 47) G foX7_254 15 rfl rfl dX7_image_44 rfl ?_
          refine w_aload_n (pc2 := 48) G 0 rfl dX7_image_47 rfl rfl ?_
          refine w_get (pc2 := 51) G foX7_29 0 rfl rfl dX7_image_48 rfl ?_
          obtain ⟨x4, H_x4, h⟩ := bs h
          refine w_cV1 (pc2 := 54) (ws2 := (wX7 E a o c_now_keys c_now_seed c_drawn_keys c_drawn_seed c_pad_signs c_pad_count c_sights_count c_sights_seeds c_img0_kept c_img0_world_keys c_img0_world_seed c_img0_sights_count c_img0_sights_seeds (1 : Int32) x3.1 x3.2 x4.1 x4.2 c_trial_act_kind c_trial_act_set c_trial_act_key c_trial_act_other c_trial_tb_left c_trial_tb_right c_trial_tb_parent c_trial_tb_span c_trial_tb_root c_trial_tb_digest c_trial_tb_height c_trial_tb_priority c_trial_tb_pricedBy c_trial_tb_open c_trial_ta_left c_trial_ta_right c_trial_ta_parent c_trial_ta_span c_trial_ta_root c_trial_ta_digest c_trial_ta_height c_trial_ta_priority c_trial_ta_pricedBy c_trial_ta_open c_trial_after_keys c_trial_after_seed c_trial_before_keys c_trial_before_seed c_trial_acts c_trial_whyNot c_trial_work c_trial_alikeAct c_trial_alikePair)) (As := [.ref (a (o + 7))]) (rest := []) G koX7_255 (r_X3_copy (o := (o + 18)) (o1 := (o + 7)) H_x4) (Nat.le_of_ble_eq_true rfl) 3 rfl rfl [18, 19, 7, 8] [0, 1, 2, 3, 4, 5, 6, 9, 10, 11, 12, 13, 14, 15, 16, 17, 20, 21, 22, 23, 24, 25, 26, 27, 28, 29, 30, 31, 32, 33, 34, 35, 36, 37, 38, 39, 40, 41, 42, 43] [0, 1, 2, 3, 4, 5, 6, 42, 43, 7, 8, 9, 10, 11, 12, 13, 14, 15, 40, 41, 16, 17, 18, 19, 20, 21, 22, 23, 24, 25, 26, 27, 28, 29, 30, 31, 32, 33, 34, 35, 36, 37, 38, 39] rfl rfl rfl rfl rfl rfl rfl rfl rfl (Nat.le_of_ble_eq_true rfl) ⟨Nat.zero_le _, Nat.zero_le _⟩ dX7_image_51 rfl rfl ?_
          refine w_iconst (pc2 := 55) G dX7_image_54 k_iconst_1 rfl ?_
          cases h
          exact w_iret G hQ rfl ⟨rfl, rfl⟩ dX7_image_55
        · exact no_some ((if_neg s1).symm.trans h)
    · replace h := (if_neg cc).symm.trans h
      refine w_bipush (pc2 := 11) G dX7_image_9 k_bipush_m2 rfl ?_
      cases h
      exact w_iret G hQ rfl ⟨rfl, rfl⟩ dX7_image_11
