set_option maxHeartbeats 4000000 in
set_option maxRecDepth 100000 in
theorem r_X0_become {l : Launch} {E : EV} {a : Nat → Nat} {o : Nat} {c_kind c_set c_key c_other : Int32} {l1 : Int32} {l2 : Int32} {l3 : Int32} {l4 : Int32} {R : Int32 × Int32 × Int32 × Int32} (h : f_X0_become c_kind c_set c_key c_other l1 l2 l3 l4 = some R) : Ret1 l E yX0_become cX0_become 5 none 0 (wX0 E a o c_kind c_set c_key c_other) [.ref (a o), .int l1, .int l2, .int l3, .int l4] none (wX0 E a o R.1 R.2.1 R.2.2.1 R.2.2.2) := by
  refine Ret.intro (lv := [(0, .ref (a o)), (1, .int l1), (2, .int l2), (3, .int l3), (4, .int l4)]) (by decide) (Nat.le_of_ble_eq_true rfl) rfl ?_
  intro g hgl G hQ
  subst hgl
  rw [f_X0_become] at h
  refine w_aload_n (pc2 := 1) G 0 rfl dX0_become_0 rfl rfl ?_
  refine w_iload_n (pc2 := 2) G 1 rfl dX0_become_1 rfl rfl ?_
  refine w_put (pc2 := 5) (ws2 := (wX0 E a o l1 c_set c_key c_other)) G foX0_9 tokX0 0 rfl rfl rfl rfl (Nat.le_of_ble_eq_true rfl) rfl dX0_become_2 rfl ?_
  refine w_aload_n (pc2 := 6) G 0 rfl dX0_become_5 rfl rfl ?_
  refine w_iload_n (pc2 := 7) G 2 rfl dX0_become_6 rfl rfl ?_
  refine w_put (pc2 := 10) (ws2 := (wX0 E a o l1 l2 c_key c_other)) G foX0_15 tokX0 0 rfl rfl rfl rfl (Nat.le_of_ble_eq_true rfl) rfl dX0_become_7 rfl ?_
  refine w_aload_n (pc2 := 11) G 0 rfl dX0_become_10 rfl rfl ?_
  refine w_iload_n (pc2 := 12) G 3 rfl dX0_become_11 rfl rfl ?_
  refine w_put (pc2 := 15) (ws2 := (wX0 E a o l1 l2 l3 c_other)) G foX0_18 tokX0 0 rfl rfl rfl rfl (Nat.le_of_ble_eq_true rfl) rfl dX0_become_12 rfl ?_
  refine w_aload_n (pc2 := 16) G 0 rfl dX0_become_15 rfl rfl ?_
  refine w_iload (pc2 := 18) G 4 rfl dX0_become_16 rfl ?_
  refine w_put (pc2 := 21) (ws2 := (wX0 E a o l1 l2 l3 l4)) G foX0_21 tokX0 0 rfl rfl rfl rfl (Nat.le_of_ble_eq_true rfl) rfl dX0_become_18 rfl ?_
  cases h
  exact w_vret G hQ rfl ⟨rfl, rfl⟩ dX0_become_21

set_option maxHeartbeats 4000000 in
set_option maxRecDepth 100000 in
theorem r_X0_draw {l : Launch} {E : EV} {a : Nat → Nat} {o : Nat} {c_kind c_set c_key c_other : Int32} {l1 : Int32} {R : Int32 × Int32 × Int32 × Int32} (h : f_X0_draw c_kind c_set c_key c_other l1 = some R) : Ret1 l E yX0_draw cX0_draw 3 none 1 (wX0 E a o c_kind c_set c_key c_other) [.ref (a o), .int l1] none (wX0 E a o R.1 R.2.1 R.2.2.1 R.2.2.2) := by
  refine Ret.intro (lv := [(0, .ref (a o)), (1, .int l1)]) (by decide) (Nat.le_of_ble_eq_true rfl) rfl ?_
  intro g hgl G hQ
  subst hgl
  rw [f_X0_draw] at h
  refine w_iload_n (pc2 := 1) G 1 rfl dX0_draw_0 rfl rfl ?_
  refine w_bipush (pc2 := 3) G dX0_draw_1 k_bipush_8 rfl ?_
  refine w_idiv (pc2 := 4) G dX0_draw_3 (by decide) rfl ?_
  refine w_istore_n (pc2 := 5) (lv2 := [(2, .int (l1 / (8 : Int32))), (0, .ref (a o)), (1, .int l1)]) G dX0_draw_4 rfl (Nat.le_of_ble_eq_true rfl) rfl rfl ?_
  refine w_iload_n (pc2 := 6) G 2 rfl dX0_draw_5 rfl rfl ?_
  refine w_bipush (pc2 := 8) G dX0_draw_6 k_bipush_8 rfl ?_
  refine w_irem (pc2 := 9) G dX0_draw_8 (by decide) rfl ?_
  by_cases sdX0_draw_9_0 : (l1 - l1 / (8 : Int32) * (8 : Int32)) = (0 : Int32)
  · replace h := (if_pos sdX0_draw_9_0).symm.trans h
    refine w_tabIn (tgt := 52) G sdX0_draw_9_0 dX0_draw_9 (by decide) (by decide) rfl (by decide) ?_
    refine w_aload_n (pc2 := 53) G 1 rfl dX0_draw_52 rfl rfl ?_
    refine w_bipush (pc2 := 55) G dX0_draw_53 k_bipush_43 rfl ?_
    refine w_iload_n (pc2 := 56) G 0 rfl dX0_draw_55 rfl rfl ?_
    refine w_bipush (pc2 := 58) G dX0_draw_56 k_bipush_50 rfl ?_
    refine w_idiv (pc2 := 59) G dX0_draw_58 (by decide) rfl ?_
    refine w_iconst (pc2 := 60) G dX0_draw_59 k_iconst_4 rfl ?_
    refine w_irem (pc2 := 61) G dX0_draw_60 (by decide) rfl ?_
    refine w_iload_n (pc2 := 62) G 0 rfl dX0_draw_61 rfl rfl ?_
    refine w_bipush (pc2 := 64) G dX0_draw_62 k_bipush_50 rfl ?_
    refine w_irem (pc2 := 65) G dX0_draw_64 (by decide) rfl ?_
    refine w_iconst (pc2 := 66) G dX0_draw_65 k_iconst_0 rfl ?_
    obtain ⟨x1, H_x1, h⟩ := bs h
    refine w_cV0 (pc2 := 69) (ws2 := (wX0 E a o x1.1 x1.2.1 x1.2.2.1 x1.2.2.2)) (As := [.int (43 : Int32), .int (((l1 / (8 : Int32)) / (50 : Int32)) - ((l1 / (8 : Int32)) / (50 : Int32)) / (4 : Int32) * (4 : Int32)), .int ((l1 / (8 : Int32)) - (l1 / (8 : Int32)) / (50 : Int32) * (50 : Int32)), .int (0 : Int32)]) (rest := []) G koX0_24 (r_X0_become H_x1) (Nat.le_of_ble_eq_true rfl) 0 rfl rfl rfl rfl (Nat.le_of_ble_eq_true rfl) ⟨Nat.zero_le _, Nat.zero_le _⟩ dX0_draw_66 rfl rfl ?_
    refine w_goto (tgt := 178) G dX0_draw_69 (by decide) ?_
    cases h
    exact w_vret G hQ rfl ⟨rfl, rfl⟩ dX0_draw_178
  replace h := (if_neg sdX0_draw_9_0).symm.trans h
  by_cases sdX0_draw_9_1 : (l1 - l1 / (8 : Int32) * (8 : Int32)) = (1 : Int32)
  · replace h := (if_pos sdX0_draw_9_1).symm.trans h
    refine w_tabIn (tgt := 52) G sdX0_draw_9_1 dX0_draw_9 (by decide) (by decide) rfl (by decide) ?_
    refine w_aload_n (pc2 := 53) G 1 rfl dX0_draw_52 rfl rfl ?_
    refine w_bipush (pc2 := 55) G dX0_draw_53 k_bipush_43 rfl ?_
    refine w_iload_n (pc2 := 56) G 0 rfl dX0_draw_55 rfl rfl ?_
    refine w_bipush (pc2 := 58) G dX0_draw_56 k_bipush_50 rfl ?_
    refine w_idiv (pc2 := 59) G dX0_draw_58 (by decide) rfl ?_
    refine w_iconst (pc2 := 60) G dX0_draw_59 k_iconst_4 rfl ?_
    refine w_irem (pc2 := 61) G dX0_draw_60 (by decide) rfl ?_
    refine w_iload_n (pc2 := 62) G 0 rfl dX0_draw_61 rfl rfl ?_
    refine w_bipush (pc2 := 64) G dX0_draw_62 k_bipush_50 rfl ?_
    refine w_irem (pc2 := 65) G dX0_draw_64 (by decide) rfl ?_
    refine w_iconst (pc2 := 66) G dX0_draw_65 k_iconst_0 rfl ?_
    obtain ⟨x2, H_x2, h⟩ := bs h
    refine w_cV0 (pc2 := 69) (ws2 := (wX0 E a o x2.1 x2.2.1 x2.2.2.1 x2.2.2.2)) (As := [.int (43 : Int32), .int (((l1 / (8 : Int32)) / (50 : Int32)) - ((l1 / (8 : Int32)) / (50 : Int32)) / (4 : Int32) * (4 : Int32)), .int ((l1 / (8 : Int32)) - (l1 / (8 : Int32)) / (50 : Int32) * (50 : Int32)), .int (0 : Int32)]) (rest := []) G koX0_24 (r_X0_become H_x2) (Nat.le_of_ble_eq_true rfl) 0 rfl rfl rfl rfl (Nat.le_of_ble_eq_true rfl) ⟨Nat.zero_le _, Nat.zero_le _⟩ dX0_draw_66 rfl rfl ?_
    refine w_goto (tgt := 178) G dX0_draw_69 (by decide) ?_
    cases h
    exact w_vret G hQ rfl ⟨rfl, rfl⟩ dX0_draw_178
  replace h := (if_neg sdX0_draw_9_1).symm.trans h
  by_cases sdX0_draw_9_2 : (l1 - l1 / (8 : Int32) * (8 : Int32)) = (2 : Int32)
  · replace h := (if_pos sdX0_draw_9_2).symm.trans h
    refine w_tabIn (tgt := 52) G sdX0_draw_9_2 dX0_draw_9 (by decide) (by decide) rfl (by decide) ?_
    refine w_aload_n (pc2 := 53) G 1 rfl dX0_draw_52 rfl rfl ?_
    refine w_bipush (pc2 := 55) G dX0_draw_53 k_bipush_43 rfl ?_
    refine w_iload_n (pc2 := 56) G 0 rfl dX0_draw_55 rfl rfl ?_
    refine w_bipush (pc2 := 58) G dX0_draw_56 k_bipush_50 rfl ?_
    refine w_idiv (pc2 := 59) G dX0_draw_58 (by decide) rfl ?_
    refine w_iconst (pc2 := 60) G dX0_draw_59 k_iconst_4 rfl ?_
    refine w_irem (pc2 := 61) G dX0_draw_60 (by decide) rfl ?_
    refine w_iload_n (pc2 := 62) G 0 rfl dX0_draw_61 rfl rfl ?_
    refine w_bipush (pc2 := 64) G dX0_draw_62 k_bipush_50 rfl ?_
    refine w_irem (pc2 := 65) G dX0_draw_64 (by decide) rfl ?_
    refine w_iconst (pc2 := 66) G dX0_draw_65 k_iconst_0 rfl ?_
    obtain ⟨x3, H_x3, h⟩ := bs h
    refine w_cV0 (pc2 := 69) (ws2 := (wX0 E a o x3.1 x3.2.1 x3.2.2.1 x3.2.2.2)) (As := [.int (43 : Int32), .int (((l1 / (8 : Int32)) / (50 : Int32)) - ((l1 / (8 : Int32)) / (50 : Int32)) / (4 : Int32) * (4 : Int32)), .int ((l1 / (8 : Int32)) - (l1 / (8 : Int32)) / (50 : Int32) * (50 : Int32)), .int (0 : Int32)]) (rest := []) G koX0_24 (r_X0_become H_x3) (Nat.le_of_ble_eq_true rfl) 0 rfl rfl rfl rfl (Nat.le_of_ble_eq_true rfl) ⟨Nat.zero_le _, Nat.zero_le _⟩ dX0_draw_66 rfl rfl ?_
    refine w_goto (tgt := 178) G dX0_draw_69 (by decide) ?_
    cases h
    exact w_vret G hQ rfl ⟨rfl, rfl⟩ dX0_draw_178
  replace h := (if_neg sdX0_draw_9_2).symm.trans h
  by_cases sdX0_draw_9_3 : (l1 - l1 / (8 : Int32) * (8 : Int32)) = (3 : Int32)
  · replace h := (if_pos sdX0_draw_9_3).symm.trans h
    refine w_tabIn (tgt := 72) G sdX0_draw_9_3 dX0_draw_9 (by decide) (by decide) rfl (by decide) ?_
    refine w_aload_n (pc2 := 73) G 1 rfl dX0_draw_72 rfl rfl ?_
    refine w_bipush (pc2 := 75) G dX0_draw_73 k_bipush_45 rfl ?_
    refine w_iload_n (pc2 := 76) G 0 rfl dX0_draw_75 rfl rfl ?_
    refine w_bipush (pc2 := 78) G dX0_draw_76 k_bipush_50 rfl ?_
    refine w_idiv (pc2 := 79) G dX0_draw_78 (by decide) rfl ?_
    refine w_iconst (pc2 := 80) G dX0_draw_79 k_iconst_4 rfl ?_
    refine w_irem (pc2 := 81) G dX0_draw_80 (by decide) rfl ?_
    refine w_iload_n (pc2 := 82) G 0 rfl dX0_draw_81 rfl rfl ?_
    refine w_bipush (pc2 := 84) G dX0_draw_82 k_bipush_50 rfl ?_
    refine w_irem (pc2 := 85) G dX0_draw_84 (by decide) rfl ?_
    refine w_iconst (pc2 := 86) G dX0_draw_85 k_iconst_0 rfl ?_
    obtain ⟨x4, H_x4, h⟩ := bs h
    refine w_cV0 (pc2 := 89) (ws2 := (wX0 E a o x4.1 x4.2.1 x4.2.2.1 x4.2.2.2)) (As := [.int (45 : Int32), .int (((l1 / (8 : Int32)) / (50 : Int32)) - ((l1 / (8 : Int32)) / (50 : Int32)) / (4 : Int32) * (4 : Int32)), .int ((l1 / (8 : Int32)) - (l1 / (8 : Int32)) / (50 : Int32) * (50 : Int32)), .int (0 : Int32)]) (rest := []) G koX0_24 (r_X0_become H_x4) (Nat.le_of_ble_eq_true rfl) 0 rfl rfl rfl rfl (Nat.le_of_ble_eq_true rfl) ⟨Nat.zero_le _, Nat.zero_le _⟩ dX0_draw_86 rfl rfl ?_
    refine w_goto (tgt := 178) G dX0_draw_89 (by decide) ?_
    cases h
    exact w_vret G hQ rfl ⟨rfl, rfl⟩ dX0_draw_178
  replace h := (if_neg sdX0_draw_9_3).symm.trans h
  by_cases sdX0_draw_9_4 : (l1 - l1 / (8 : Int32) * (8 : Int32)) = (4 : Int32)
  · replace h := (if_pos sdX0_draw_9_4).symm.trans h
    refine w_tabIn (tgt := 72) G sdX0_draw_9_4 dX0_draw_9 (by decide) (by decide) rfl (by decide) ?_
    refine w_aload_n (pc2 := 73) G 1 rfl dX0_draw_72 rfl rfl ?_
    refine w_bipush (pc2 := 75) G dX0_draw_73 k_bipush_45 rfl ?_
    refine w_iload_n (pc2 := 76) G 0 rfl dX0_draw_75 rfl rfl ?_
    refine w_bipush (pc2 := 78) G dX0_draw_76 k_bipush_50 rfl ?_
    refine w_idiv (pc2 := 79) G dX0_draw_78 (by decide) rfl ?_
    refine w_iconst (pc2 := 80) G dX0_draw_79 k_iconst_4 rfl ?_
    refine w_irem (pc2 := 81) G dX0_draw_80 (by decide) rfl ?_
    refine w_iload_n (pc2 := 82) G 0 rfl dX0_draw_81 rfl rfl ?_
    refine w_bipush (pc2 := 84) G dX0_draw_82 k_bipush_50 rfl ?_
    refine w_irem (pc2 := 85) G dX0_draw_84 (by decide) rfl ?_
    refine w_iconst (pc2 := 86) G dX0_draw_85 k_iconst_0 rfl ?_
    obtain ⟨x5, H_x5, h⟩ := bs h
    refine w_cV0 (pc2 := 89) (ws2 := (wX0 E a o x5.1 x5.2.1 x5.2.2.1 x5.2.2.2)) (As := [.int (45 : Int32), .int (((l1 / (8 : Int32)) / (50 : Int32)) - ((l1 / (8 : Int32)) / (50 : Int32)) / (4 : Int32) * (4 : Int32)), .int ((l1 / (8 : Int32)) - (l1 / (8 : Int32)) / (50 : Int32) * (50 : Int32)), .int (0 : Int32)]) (rest := []) G koX0_24 (r_X0_become H_x5) (Nat.le_of_ble_eq_true rfl) 0 rfl rfl rfl rfl (Nat.le_of_ble_eq_true rfl) ⟨Nat.zero_le _, Nat.zero_le _⟩ dX0_draw_86 rfl rfl ?_
    refine w_goto (tgt := 178) G dX0_draw_89 (by decide) ?_
    cases h
    exact w_vret G hQ rfl ⟨rfl, rfl⟩ dX0_draw_178
  replace h := (if_neg sdX0_draw_9_4).symm.trans h
  by_cases sdX0_draw_9_5 : (l1 - l1 / (8 : Int32) * (8 : Int32)) = (5 : Int32)
  · replace h := (if_pos sdX0_draw_9_5).symm.trans h
    refine w_tabIn (tgt := 92) G sdX0_draw_9_5 dX0_draw_9 (by decide) (by decide) rfl (by decide) ?_
    refine w_aload_n (pc2 := 93) G 1 rfl dX0_draw_92 rfl rfl ?_
    refine w_bipush (pc2 := 95) G dX0_draw_93 k_bipush_47 rfl ?_
    refine w_iload_n (pc2 := 96) G 0 rfl dX0_draw_95 rfl rfl ?_
    refine w_iconst (pc2 := 97) G dX0_draw_96 k_iconst_4 rfl ?_
    refine w_irem (pc2 := 98) G dX0_draw_97 (by decide) rfl ?_
    refine w_iload_n (pc2 := 99) G 0 rfl dX0_draw_98 rfl rfl ?_
    refine w_iconst (pc2 := 100) G dX0_draw_99 k_iconst_4 rfl ?_
    refine w_idiv (pc2 := 101) G dX0_draw_100 (by decide) rfl ?_
    refine w_bipush (pc2 := 103) G dX0_draw_101 k_bipush_50 rfl ?_
    refine w_irem (pc2 := 104) G dX0_draw_103 (by decide) rfl ?_
    refine w_iload_n (pc2 := 105) G 0 rfl dX0_draw_104 rfl rfl ?_
    refine w_sipush (pc2 := 108) G dX0_draw_105 k_sipush_200 rfl ?_
    refine w_idiv (pc2 := 109) G dX0_draw_108 (by decide) rfl ?_
    refine w_iconst (pc2 := 110) G dX0_draw_109 k_iconst_4 rfl ?_
    refine w_irem (pc2 := 111) G dX0_draw_110 (by decide) rfl ?_
    obtain ⟨x6, H_x6, h⟩ := bs h
    refine w_cV0 (pc2 := 114) (ws2 := (wX0 E a o x6.1 x6.2.1 x6.2.2.1 x6.2.2.2)) (As := [.int (47 : Int32), .int ((l1 / (8 : Int32)) - (l1 / (8 : Int32)) / (4 : Int32) * (4 : Int32)), .int (((l1 / (8 : Int32)) / (4 : Int32)) - ((l1 / (8 : Int32)) / (4 : Int32)) / (50 : Int32) * (50 : Int32)), .int (((l1 / (8 : Int32)) / (200 : Int32)) - ((l1 / (8 : Int32)) / (200 : Int32)) / (4 : Int32) * (4 : Int32))]) (rest := []) G koX0_24 (r_X0_become H_x6) (Nat.le_of_ble_eq_true rfl) 0 rfl rfl rfl rfl (Nat.le_of_ble_eq_true rfl) ⟨Nat.zero_le _, Nat.zero_le _⟩ dX0_draw_111 rfl rfl ?_
    refine w_goto (tgt := 178) G dX0_draw_114 (by decide) ?_
    cases h
    exact w_vret G hQ rfl ⟨rfl, rfl⟩ dX0_draw_178
  replace h := (if_neg sdX0_draw_9_5).symm.trans h
  by_cases sdX0_draw_9_6 : (l1 - l1 / (8 : Int32) * (8 : Int32)) = (6 : Int32)
  · replace h := (if_pos sdX0_draw_9_6).symm.trans h
    refine w_tabIn (tgt := 117) G sdX0_draw_9_6 dX0_draw_9 (by decide) (by decide) rfl (by decide) ?_
    refine w_aload_n (pc2 := 118) G 1 rfl dX0_draw_117 rfl rfl ?_
    refine w_iload_n (pc2 := 119) G 0 rfl dX0_draw_118 rfl rfl ?_
    refine w_bipush (pc2 := 121) G dX0_draw_119 k_bipush_16 rfl ?_
    refine w_idiv (pc2 := 122) G dX0_draw_121 (by decide) rfl ?_
    refine w_iconst (pc2 := 123) G dX0_draw_122 k_iconst_2 rfl ?_
    refine w_irem (pc2 := 124) G dX0_draw_123 (by decide) rfl ?_
    refine w_if_ne (tgt := 132) (pc2 := 127) G dX0_draw_124 (by decide) rfl (fun cc => ?_) (fun cc => ?_)
    · replace h := (if_neg cc).symm.trans h
      refine w_bipush (pc2 := 134) G dX0_draw_132 k_bipush_124 rfl ?_
      refine w_iload_n (pc2 := 135) G 0 rfl dX0_draw_134 rfl rfl ?_
      refine w_iconst (pc2 := 136) G dX0_draw_135 k_iconst_4 rfl ?_
      refine w_irem (pc2 := 137) G dX0_draw_136 (by decide) rfl ?_
      refine w_iconst (pc2 := 138) G dX0_draw_137 k_iconst_0 rfl ?_
      refine w_iload_n (pc2 := 139) G 0 rfl dX0_draw_138 rfl rfl ?_
      refine w_iconst (pc2 := 140) G dX0_draw_139 k_iconst_4 rfl ?_
      refine w_idiv (pc2 := 141) G dX0_draw_140 (by decide) rfl ?_
      refine w_iconst (pc2 := 142) G dX0_draw_141 k_iconst_4 rfl ?_
      refine w_irem (pc2 := 143) G dX0_draw_142 (by decide) rfl ?_
      obtain ⟨x7, H_x7, h⟩ := bs h
      refine w_cV0 (pc2 := 146) (ws2 := (wX0 E a o x7.1 x7.2.1 x7.2.2.1 x7.2.2.2)) (As := [.int (124 : Int32), .int ((l1 / (8 : Int32)) - (l1 / (8 : Int32)) / (4 : Int32) * (4 : Int32)), .int (0 : Int32), .int (((l1 / (8 : Int32)) / (4 : Int32)) - ((l1 / (8 : Int32)) / (4 : Int32)) / (4 : Int32) * (4 : Int32))]) (rest := []) G koX0_24 (r_X0_become H_x7) (Nat.le_of_ble_eq_true rfl) 0 rfl rfl rfl rfl (Nat.le_of_ble_eq_true rfl) ⟨Nat.zero_le _, Nat.zero_le _⟩ dX0_draw_143 rfl rfl ?_
      refine w_goto (tgt := 178) G dX0_draw_146 (by decide) ?_
      cases h
      exact w_vret G hQ rfl ⟨rfl, rfl⟩ dX0_draw_178
    · replace h := (if_pos cc).symm.trans h
      refine w_bipush (pc2 := 129) G dX0_draw_127 k_bipush_38 rfl ?_
      refine w_goto (tgt := 134) G dX0_draw_129 (by decide) ?_
      refine w_iload_n (pc2 := 135) G 0 rfl dX0_draw_134 rfl rfl ?_
      refine w_iconst (pc2 := 136) G dX0_draw_135 k_iconst_4 rfl ?_
      refine w_irem (pc2 := 137) G dX0_draw_136 (by decide) rfl ?_
      refine w_iconst (pc2 := 138) G dX0_draw_137 k_iconst_0 rfl ?_
      refine w_iload_n (pc2 := 139) G 0 rfl dX0_draw_138 rfl rfl ?_
      refine w_iconst (pc2 := 140) G dX0_draw_139 k_iconst_4 rfl ?_
      refine w_idiv (pc2 := 141) G dX0_draw_140 (by decide) rfl ?_
      refine w_iconst (pc2 := 142) G dX0_draw_141 k_iconst_4 rfl ?_
      refine w_irem (pc2 := 143) G dX0_draw_142 (by decide) rfl ?_
      obtain ⟨x8, H_x8, h⟩ := bs h
      refine w_cV0 (pc2 := 146) (ws2 := (wX0 E a o x8.1 x8.2.1 x8.2.2.1 x8.2.2.2)) (As := [.int (38 : Int32), .int ((l1 / (8 : Int32)) - (l1 / (8 : Int32)) / (4 : Int32) * (4 : Int32)), .int (0 : Int32), .int (((l1 / (8 : Int32)) / (4 : Int32)) - ((l1 / (8 : Int32)) / (4 : Int32)) / (4 : Int32) * (4 : Int32))]) (rest := []) G koX0_24 (r_X0_become H_x8) (Nat.le_of_ble_eq_true rfl) 0 rfl rfl rfl rfl (Nat.le_of_ble_eq_true rfl) ⟨Nat.zero_le _, Nat.zero_le _⟩ dX0_draw_143 rfl rfl ?_
      refine w_goto (tgt := 178) G dX0_draw_146 (by decide) ?_
      cases h
      exact w_vret G hQ rfl ⟨rfl, rfl⟩ dX0_draw_178
  replace h := (if_neg sdX0_draw_9_6).symm.trans h
  refine w_tabOut (tgt := 149) G dX0_draw_9 (by have e0 := ne_ti sdX0_draw_9_0; have e1 := ne_ti sdX0_draw_9_1; have e2 := ne_ti sdX0_draw_9_2; have e3 := ne_ti sdX0_draw_9_3; have e4 := ne_ti sdX0_draw_9_4; have e5 := ne_ti sdX0_draw_9_5; have e6 := ne_ti sdX0_draw_9_6; rw [show (0 : Int32).toInt = 0 from rfl] at e0; rw [show (1 : Int32).toInt = 1 from rfl] at e1; rw [show (2 : Int32).toInt = 2 from rfl] at e2; rw [show (3 : Int32).toInt = 3 from rfl] at e3; rw [show (4 : Int32).toInt = 4 from rfl] at e4; rw [show (5 : Int32).toInt = 5 from rfl] at e5; rw [show (6 : Int32).toInt = 6 from rfl] at e6; omega) (by decide) ?_
  refine w_aload_n (pc2 := 150) G 1 rfl dX0_draw_149 rfl rfl ?_
  refine w_iload_n (pc2 := 151) G 0 rfl dX0_draw_150 rfl rfl ?_
  refine w_iconst (pc2 := 152) G dX0_draw_151 k_iconst_4 rfl ?_
  refine w_irem (pc2 := 153) G dX0_draw_152 (by decide) rfl ?_
  obtain ⟨x9, h0, h⟩ := bs h
  have K_x9 : WW g E 3 0 0 (wX0 E a o c_kind c_set c_key c_other) [(2, .int (l1 / (8 : Int32)))] 163 [.int x9, .ref (a o)] := by
    clear h0
    refine w_iload_n (pc2 := 164) G 0 rfl dX0_draw_163 rfl rfl ?_
    refine w_iconst (pc2 := 165) G dX0_draw_164 k_iconst_4 rfl ?_
    refine w_idiv (pc2 := 166) G dX0_draw_165 (by decide) rfl ?_
    refine w_iconst (pc2 := 167) G dX0_draw_166 k_iconst_4 rfl ?_
    refine w_irem (pc2 := 168) G dX0_draw_167 (by decide) rfl ?_
    refine w_iconst (pc2 := 169) G dX0_draw_168 k_iconst_0 rfl ?_
    refine w_iload_n (pc2 := 170) G 0 rfl dX0_draw_169 rfl rfl ?_
    refine w_bipush (pc2 := 172) G dX0_draw_170 k_bipush_16 rfl ?_
    refine w_idiv (pc2 := 173) G dX0_draw_172 (by decide) rfl ?_
    refine w_iconst (pc2 := 174) G dX0_draw_173 k_iconst_4 rfl ?_
    refine w_irem (pc2 := 175) G dX0_draw_174 (by decide) rfl ?_
    obtain ⟨x10, H_x10, h⟩ := bs h
    refine w_cV0 (pc2 := 178) (ws2 := (wX0 E a o x10.1 x10.2.1 x10.2.2.1 x10.2.2.2)) (As := [.int x9, .int (((l1 / (8 : Int32)) / (4 : Int32)) - ((l1 / (8 : Int32)) / (4 : Int32)) / (4 : Int32) * (4 : Int32)), .int (0 : Int32), .int (((l1 / (8 : Int32)) / (16 : Int32)) - ((l1 / (8 : Int32)) / (16 : Int32)) / (4 : Int32) * (4 : Int32))]) (rest := []) G koX0_24 (r_X0_become H_x10) (Nat.le_of_ble_eq_true rfl) 0 rfl rfl rfl rfl (Nat.le_of_ble_eq_true rfl) ⟨Nat.zero_le _, Nat.zero_le _⟩ dX0_draw_175 rfl rfl ?_
    cases h
    exact w_vret G hQ rfl ⟨rfl, rfl⟩ dX0_draw_178
  replace h := h0
  clear h0
  refine w_if_ne (tgt := 161) (pc2 := 156) G dX0_draw_153 (by decide) rfl (fun cc => ?_) (fun cc => ?_)
  · replace h := (if_neg cc).symm.trans h
    refine w_bipush (pc2 := 163) G dX0_draw_161 k_bipush_61 rfl ?_
    cases h
    exact w_lv [0] rfl K_x9
  · replace h := (if_pos cc).symm.trans h
    refine w_bipush (pc2 := 158) G dX0_draw_156 k_bipush_33 rfl ?_
    refine w_goto (tgt := 163) G dX0_draw_158 (by decide) ?_
    cases h
    exact w_lv [0] rfl K_x9

set_option maxHeartbeats 4000000 in
set_option maxRecDepth 100000 in
theorem r_X2_write {l : Launch} {E : EV} {a : Nat → Nat} {o : Nat} {c_signs : Nat → Int32} {c_count : Int32} {l1 : Int32} {R : Int32 × (Nat → Int32) × Int32} (h : f_X2_write c_signs c_count l1 = some R) : Ret1 l E yX2_write cX2_write 2 (some .boolean) 0 (wX2 E a o c_signs c_count) [.ref (a o), .int l1] (some (.int R.1)) (wX2 E a o R.2.1 R.2.2) := by
  refine Ret.intro (lv := [(0, .ref (a o)), (1, .int l1)]) (by decide) (Nat.le_of_ble_eq_true rfl) rfl ?_
  intro g hgl G hQ
  subst hgl
  rw [f_X2_write] at h
  refine w_aload_n (pc2 := 1) G 0 rfl dX2_write_0 rfl rfl ?_
  refine w_get (pc2 := 4) G foX2_15 0 rfl rfl dX2_write_1 rfl ?_
  refine w_bipush (pc2 := 6) G dX2_write_4 k_bipush_60 rfl ?_
  refine w_icmp_lt (tgt := 11) (pc2 := 9) G dX2_write_6 (by decide) rfl (fun cc => ?_) (fun cc => ?_)
  · replace h := (if_pos cc).symm.trans h
    refine w_aload_n (pc2 := 12) G 0 rfl dX2_write_11 rfl rfl ?_
    refine w_get (pc2 := 15) G foX2_11 0 rfl rfl dX2_write_12 rfl ?_
    refine w_aload_n (pc2 := 16) G 0 rfl dX2_write_15 rfl rfl ?_
    refine w_get (pc2 := 19) G foX2_15 0 rfl rfl dX2_write_16 rfl ?_
    refine w_iload_n (pc2 := 20) G 1 rfl dX2_write_19 rfl rfl ?_
    obtain ⟨f1, H_f1, h⟩ := bs h
    refine w_iasto (pc2 := 21) (ws2 := (wX2 E a o f1 c_count)) G 1 rfl H_f1 rfl dX2_write_20 rfl ?_
    refine w_aload_n (pc2 := 22) G 0 rfl dX2_write_21 rfl rfl ?_
    refine w_dup (pc2 := 23) G dX2_write_22 rfl rfl ?_
    refine w_get (pc2 := 26) G foX2_15 0 rfl rfl dX2_write_23 rfl ?_
    refine w_iconst (pc2 := 27) G dX2_write_26 k_iconst_1 rfl ?_
    refine w_iadd (pc2 := 28) G dX2_write_27 rfl ?_
    refine w_put (pc2 := 31) (ws2 := (wX2 E a o f1 (c_count + (1 : Int32)))) G foX2_15 tokX2 0 rfl rfl rfl rfl (Nat.le_of_ble_eq_true rfl) rfl dX2_write_28 rfl ?_
    refine w_iconst (pc2 := 32) G dX2_write_31 k_iconst_1 rfl ?_
    cases h
    exact w_zret G hQ rfl (Or.inr rfl) ⟨rfl, rfl⟩ dX2_write_32
  · replace h := (if_neg cc).symm.trans h
    refine w_iconst (pc2 := 10) G dX2_write_9 k_iconst_0 rfl ?_
    cases h
    exact w_zret G hQ rfl (Or.inl rfl) ⟨rfl, rfl⟩ dX2_write_10

set_option maxHeartbeats 4000000 in
set_option maxRecDepth 100000 in
theorem r_X2_clear {l : Launch} {E : EV} {a : Nat → Nat} {o : Nat} {c_signs : Nat → Int32} {c_count : Int32}  {R : Int32} (h : f_X2_clear c_count = some R) : Ret1 l E yX2_clear cX2_clear 1 none 0 (wX2 E a o c_signs c_count) [.ref (a o)] none (wX2 E a o c_signs R) := by
  refine Ret.intro (lv := [(0, .ref (a o))]) (by decide) (Nat.le_of_ble_eq_true rfl) rfl ?_
  intro g hgl G hQ
  subst hgl
  rw [f_X2_clear] at h
  refine w_aload_n (pc2 := 1) G 0 rfl dX2_clear_0 rfl rfl ?_
  refine w_iconst (pc2 := 2) G dX2_clear_1 k_iconst_0 rfl ?_
  refine w_put (pc2 := 5) (ws2 := (wX2 E a o c_signs (0 : Int32))) G foX2_15 tokX2 0 rfl rfl rfl rfl (Nat.le_of_ble_eq_true rfl) rfl dX2_clear_2 rfl ?_
  cases h
  exact w_vret G hQ rfl ⟨rfl, rfl⟩ dX2_clear_5

set_option maxHeartbeats 4000000 in
set_option maxRecDepth 100000 in
theorem r_X7_isSet {l : Launch} {E : EV}  {l0 : Int32} {R : Int32} (h : f_X7_isSet l0 = some R) : Ret1 l E yX7_isSet cX7_isSet 1 (some .boolean) 0 [] [.int l0] (some (.int R)) [] := by
  refine Ret.intro (lv := [(0, .int l0)]) (by decide) (Nat.le_of_ble_eq_true rfl) rfl ?_
  intro g hgl G hQ
  subst hgl
  rw [f_X7_isSet] at h
  refine w_iload_n (pc2 := 1) G 0 rfl dX7_isSet_0 rfl rfl ?_
  refine w_if_lt (tgt := 13) (pc2 := 4) G dX7_isSet_1 (by decide) rfl (fun cc => ?_) (fun cc => ?_)
  · replace h := (if_pos cc).symm.trans h
    refine w_iconst (pc2 := 14) G dX7_isSet_13 k_iconst_0 rfl ?_
    cases h
    exact w_zret G hQ rfl (Or.inl rfl) ⟨rfl, rfl⟩ dX7_isSet_14
  · replace h := (if_neg cc).symm.trans h
    refine w_iload_n (pc2 := 5) G 0 rfl dX7_isSet_4 rfl rfl ?_
    refine w_iconst (pc2 := 6) G dX7_isSet_5 k_iconst_4 rfl ?_
    refine w_icmp_ge (tgt := 13) (pc2 := 9) G dX7_isSet_6 (by decide) rfl (fun cc => ?_) (fun cc => ?_)
    · replace h := (if_pos cc).symm.trans h
      refine w_iconst (pc2 := 14) G dX7_isSet_13 k_iconst_0 rfl ?_
      cases h
      exact w_zret G hQ rfl (Or.inl rfl) ⟨rfl, rfl⟩ dX7_isSet_14
    · replace h := (if_neg cc).symm.trans h
      refine w_iconst (pc2 := 10) G dX7_isSet_9 k_iconst_1 rfl ?_
      refine w_goto (tgt := 14) G dX7_isSet_10 (by decide) ?_
      cases h
      exact w_zret G hQ rfl (Or.inr rfl) ⟨rfl, rfl⟩ dX7_isSet_14

set_option maxHeartbeats 4000000 in
set_option maxRecDepth 100000 in
theorem r_X2_isLetter {l : Launch} {E : EV}  {l0 : Int32} {R : Int32} (h : f_X2_isLetter l0 = some R) : Ret1 l E yX2_isLetter cX2_isLetter 1 (some .boolean) 1 [] [.int l0] (some (.int R)) [] := by
  refine Ret.intro (lv := [(0, .int l0)]) (by decide) (Nat.le_of_ble_eq_true rfl) rfl ?_
  intro g hgl G hQ
  subst hgl
  rw [f_X2_isLetter] at h
  refine w_iload_n (pc2 := 1) G 0 rfl dX2_isLetter_0 rfl rfl ?_
  refine w_bipush (pc2 := 3) G dX2_isLetter_1 k_bipush_65 rfl ?_
  refine w_isub (pc2 := 4) G dX2_isLetter_3 rfl ?_
  obtain ⟨x1, H_x1, h⟩ := bs h
  refine w_cS0N (pc2 := 7) (As := [.int (l0 - (65 : Int32))]) (rest := []) G koX2_39 (r_X7_isSet H_x1) (Nat.le_of_ble_eq_true rfl) rfl rfl (Nat.le_of_ble_eq_true rfl) ⟨Nat.zero_le _, Nat.zero_le _⟩ dX2_isLetter_4 rfl rfl ?_
  obtain ⟨v2, H_v2, h⟩ := bs h
  cases h
  exact w_zret G hQ rfl (bz_some H_v2) ⟨rfl, rfl⟩ dX2_isLetter_7

set_option maxHeartbeats 4000000 in
set_option maxRecDepth 100000 in
theorem r_X2_followKind {l : Launch} {E : EV}  {l0 : Int32} {R : Int32} (h : f_X2_followKind l0 = some R) : Ret1 l E yX2_followKind cX2_followKind 1 (some .int) 0 [] [.int l0] (some (.int R)) [] := by
  refine Ret.intro (lv := [(0, .int l0)]) (by decide) (Nat.le_of_ble_eq_true rfl) rfl ?_
  intro g hgl G hQ
  subst hgl
  rw [f_X2_followKind] at h
  refine w_iload_n (pc2 := 1) G 0 rfl dX2_followKind_0 rfl rfl ?_
  by_cases sdX2_followKind_1_0 : l0 = (38 : Int32)
  · replace h := (if_pos sdX2_followKind_1_0).symm.trans h
    refine w_look (tgt := 72) G dX2_followKind_1 (by decide) (by rw [sdX2_followKind_1_0] <;> rfl) (by decide) ?_
    refine w_bipush (pc2 := 74) G dX2_followKind_72 k_bipush_6 rfl ?_
    cases h
    exact w_iret G hQ rfl ⟨rfl, rfl⟩ dX2_followKind_74
  replace h := (if_neg sdX2_followKind_1_0).symm.trans h
  by_cases sdX2_followKind_1_1 : l0 = (43 : Int32)
  · replace h := (if_pos sdX2_followKind_1_1).symm.trans h
    refine w_look (tgt := 68) G dX2_followKind_1 (by decide) (by rw [sdX2_followKind_1_1] <;> rfl) (by decide) ?_
    refine w_iconst (pc2 := 69) G dX2_followKind_68 k_iconst_2 rfl ?_
    cases h
    exact w_iret G hQ rfl ⟨rfl, rfl⟩ dX2_followKind_69
  replace h := (if_neg sdX2_followKind_1_1).symm.trans h
  by_cases sdX2_followKind_1_2 : l0 = (45 : Int32)
  · replace h := (if_pos sdX2_followKind_1_2).symm.trans h
    refine w_look (tgt := 68) G dX2_followKind_1 (by decide) (by rw [sdX2_followKind_1_2] <;> rfl) (by decide) ?_
    refine w_iconst (pc2 := 69) G dX2_followKind_68 k_iconst_2 rfl ?_
    cases h
    exact w_iret G hQ rfl ⟨rfl, rfl⟩ dX2_followKind_69
  replace h := (if_neg sdX2_followKind_1_2).symm.trans h
  by_cases sdX2_followKind_1_3 : l0 = (47 : Int32)
  · replace h := (if_pos sdX2_followKind_1_3).symm.trans h
    refine w_look (tgt := 70) G dX2_followKind_1 (by decide) (by rw [sdX2_followKind_1_3] <;> rfl) (by decide) ?_
    refine w_iconst (pc2 := 71) G dX2_followKind_70 k_iconst_4 rfl ?_
    cases h
    exact w_iret G hQ rfl ⟨rfl, rfl⟩ dX2_followKind_71
  replace h := (if_neg sdX2_followKind_1_3).symm.trans h
  by_cases sdX2_followKind_1_4 : l0 = (61 : Int32)
  · replace h := (if_pos sdX2_followKind_1_4).symm.trans h
    refine w_look (tgt := 72) G dX2_followKind_1 (by decide) (by rw [sdX2_followKind_1_4] <;> rfl) (by decide) ?_
    refine w_bipush (pc2 := 74) G dX2_followKind_72 k_bipush_6 rfl ?_
    cases h
    exact w_iret G hQ rfl ⟨rfl, rfl⟩ dX2_followKind_74
  replace h := (if_neg sdX2_followKind_1_4).symm.trans h
  by_cases sdX2_followKind_1_5 : l0 = (124 : Int32)
  · replace h := (if_pos sdX2_followKind_1_5).symm.trans h
    refine w_look (tgt := 72) G dX2_followKind_1 (by decide) (by rw [sdX2_followKind_1_5] <;> rfl) (by decide) ?_
    refine w_bipush (pc2 := 74) G dX2_followKind_72 k_bipush_6 rfl ?_
    cases h
    exact w_iret G hQ rfl ⟨rfl, rfl⟩ dX2_followKind_74
  replace h := (if_neg sdX2_followKind_1_5).symm.trans h
  by_cases sdX2_followKind_1_6 : l0 = (126 : Int32)
  · replace h := (if_pos sdX2_followKind_1_6).symm.trans h
    refine w_look (tgt := 72) G dX2_followKind_1 (by decide) (by rw [sdX2_followKind_1_6] <;> rfl) (by decide) ?_
    refine w_bipush (pc2 := 74) G dX2_followKind_72 k_bipush_6 rfl ?_
    cases h
    exact w_iret G hQ rfl ⟨rfl, rfl⟩ dX2_followKind_74
  replace h := (if_neg sdX2_followKind_1_6).symm.trans h
  refine w_look (tgt := 75) G dX2_followKind_1 (by decide) (look_out (by have e0 := ne_ti sdX2_followKind_1_0; have e1 := ne_ti sdX2_followKind_1_1; have e2 := ne_ti sdX2_followKind_1_2; have e3 := ne_ti sdX2_followKind_1_3; have e4 := ne_ti sdX2_followKind_1_4; have e5 := ne_ti sdX2_followKind_1_5; have e6 := ne_ti sdX2_followKind_1_6; simp only [List.all_cons, List.all_nil, Bool.and_true, Bool.and_eq_true, decide_eq_true_eq]; exact ⟨e0, e1, e2, e3, e4, e5, e6⟩)) (by decide) ?_
  refine w_bipush (pc2 := 77) G dX2_followKind_75 k_bipush_m6 rfl ?_
  cases h
  exact w_iret G hQ rfl ⟨rfl, rfl⟩ dX2_followKind_77

set_option maxHeartbeats 4000000 in
set_option maxRecDepth 100000 in
theorem r_X2_isTens {l : Launch} {E : EV}  {l0 : Int32} {R : Int32} (h : f_X2_isTens l0 = some R) : Ret1 l E yX2_isTens cX2_isTens 1 (some .boolean) 0 [] [.int l0] (some (.int R)) [] := by
  refine Ret.intro (lv := [(0, .int l0)]) (by decide) (Nat.le_of_ble_eq_true rfl) rfl ?_
  intro g hgl G hQ
  subst hgl
  rw [f_X2_isTens] at h
  refine w_iload_n (pc2 := 1) G 0 rfl dX2_isTens_0 rfl rfl ?_
  refine w_bipush (pc2 := 3) G dX2_isTens_1 k_bipush_48 rfl ?_
  refine w_icmp_lt (tgt := 16) (pc2 := 6) G dX2_isTens_3 (by decide) rfl (fun cc => ?_) (fun cc => ?_)
  · replace h := (if_pos cc).symm.trans h
    refine w_iconst (pc2 := 17) G dX2_isTens_16 k_iconst_0 rfl ?_
    cases h
    exact w_zret G hQ rfl (Or.inl rfl) ⟨rfl, rfl⟩ dX2_isTens_17
  · replace h := (if_neg cc).symm.trans h
    refine w_iload_n (pc2 := 7) G 0 rfl dX2_isTens_6 rfl rfl ?_
    refine w_bipush (pc2 := 9) G dX2_isTens_7 k_bipush_52 rfl ?_
    refine w_icmp_gt (tgt := 16) (pc2 := 12) G dX2_isTens_9 (by decide) rfl (fun cc => ?_) (fun cc => ?_)
    · replace h := (if_pos cc).symm.trans h
      refine w_iconst (pc2 := 17) G dX2_isTens_16 k_iconst_0 rfl ?_
      cases h
      exact w_zret G hQ rfl (Or.inl rfl) ⟨rfl, rfl⟩ dX2_isTens_17
    · replace h := (if_neg cc).symm.trans h
      refine w_iconst (pc2 := 13) G dX2_isTens_12 k_iconst_1 rfl ?_
      refine w_goto (tgt := 17) G dX2_isTens_13 (by decide) ?_
      cases h
      exact w_zret G hQ rfl (Or.inr rfl) ⟨rfl, rfl⟩ dX2_isTens_17

set_option maxHeartbeats 4000000 in
set_option maxRecDepth 100000 in
theorem r_X2_isFigure {l : Launch} {E : EV}  {l0 : Int32} {R : Int32} (h : f_X2_isFigure l0 = some R) : Ret1 l E yX2_isFigure cX2_isFigure 1 (some .boolean) 0 [] [.int l0] (some (.int R)) [] := by
  refine Ret.intro (lv := [(0, .int l0)]) (by decide) (Nat.le_of_ble_eq_true rfl) rfl ?_
  intro g hgl G hQ
  subst hgl
  rw [f_X2_isFigure] at h
  refine w_iload_n (pc2 := 1) G 0 rfl dX2_isFigure_0 rfl rfl ?_
  refine w_bipush (pc2 := 3) G dX2_isFigure_1 k_bipush_48 rfl ?_
  refine w_icmp_lt (tgt := 16) (pc2 := 6) G dX2_isFigure_3 (by decide) rfl (fun cc => ?_) (fun cc => ?_)
  · replace h := (if_pos cc).symm.trans h
    refine w_iconst (pc2 := 17) G dX2_isFigure_16 k_iconst_0 rfl ?_
    cases h
    exact w_zret G hQ rfl (Or.inl rfl) ⟨rfl, rfl⟩ dX2_isFigure_17
  · replace h := (if_neg cc).symm.trans h
    refine w_iload_n (pc2 := 7) G 0 rfl dX2_isFigure_6 rfl rfl ?_
    refine w_bipush (pc2 := 9) G dX2_isFigure_7 k_bipush_57 rfl ?_
    refine w_icmp_gt (tgt := 16) (pc2 := 12) G dX2_isFigure_9 (by decide) rfl (fun cc => ?_) (fun cc => ?_)
    · replace h := (if_pos cc).symm.trans h
      refine w_iconst (pc2 := 17) G dX2_isFigure_16 k_iconst_0 rfl ?_
      cases h
      exact w_zret G hQ rfl (Or.inl rfl) ⟨rfl, rfl⟩ dX2_isFigure_17
    · replace h := (if_neg cc).symm.trans h
      refine w_iconst (pc2 := 13) G dX2_isFigure_12 k_iconst_1 rfl ?_
      refine w_goto (tgt := 17) G dX2_isFigure_13 (by decide) ?_
      cases h
      exact w_zret G hQ rfl (Or.inr rfl) ⟨rfl, rfl⟩ dX2_isFigure_17

set_option maxHeartbeats 4000000 in
set_option maxRecDepth 100000 in
theorem r_X2_follow {l : Launch} {E : EV}  {l0 : Int32} {l1 : Int32} {R : Int32} (h : f_X2_follow l0 l1 = some R) : Ret1 l E yX2_follow cX2_follow 2 (some .int) 2 [] [.int l0, .int l1] (some (.int R)) [] := by
  refine Ret.intro (lv := [(0, .int l0), (1, .int l1)]) (by decide) (Nat.le_of_ble_eq_true rfl) rfl ?_
  intro g hgl G hQ
  subst hgl
  rw [f_X2_follow] at h
  refine w_iload_n (pc2 := 1) G 0 rfl dX2_follow_0 rfl rfl ?_
  by_cases sdX2_follow_1_0 : l0 = (0 : Int32)
  · replace h := (if_pos sdX2_follow_1_0).symm.trans h
    refine w_tabIn (tgt := 40) G sdX2_follow_1_0 dX2_follow_1 (by decide) (by decide) rfl (by decide) ?_
    refine w_iload_n (pc2 := 41) G 1 rfl dX2_follow_40 rfl rfl ?_
    refine w_bipush (pc2 := 43) G dX2_follow_41 k_bipush_33 rfl ?_
    refine w_icmp_ne (tgt := 50) (pc2 := 46) G dX2_follow_43 (by decide) rfl (fun cc => ?_) (fun cc => ?_)
    · replace h := (if_neg cc).symm.trans h
      refine w_iload_n (pc2 := 51) G 1 rfl dX2_follow_50 rfl rfl ?_
      obtain ⟨x1, H_x1, h⟩ := bs h
      refine w_cS0 (pc2 := 54) (As := [.int l1]) (rest := []) G koX2_25 (r_X2_isLetter H_x1) (Nat.le_of_ble_eq_true rfl) rfl rfl (Nat.le_of_ble_eq_true rfl) ⟨Nat.zero_le _, Nat.zero_le _⟩ dX2_follow_51 rfl rfl ?_
      refine w_if_eq (tgt := 61) (pc2 := 57) G dX2_follow_54 (by decide) rfl (fun cc => ?_) (fun cc => ?_)
      · replace h := (if_pos cc).symm.trans h
        refine w_bipush (pc2 := 63) G dX2_follow_61 k_bipush_m6 rfl ?_
        cases h
        exact w_iret G hQ rfl ⟨rfl, rfl⟩ dX2_follow_63
      · replace h := (if_neg cc).symm.trans h
        refine w_iconst (pc2 := 58) G dX2_follow_57 k_iconst_1 rfl ?_
        refine w_goto (tgt := 63) G dX2_follow_58 (by decide) ?_
        cases h
        exact w_iret G hQ rfl ⟨rfl, rfl⟩ dX2_follow_63
    · replace h := (if_pos cc).symm.trans h
      refine w_iconst (pc2 := 47) G dX2_follow_46 k_iconst_0 rfl ?_
      refine w_goto (tgt := 63) G dX2_follow_47 (by decide) ?_
      cases h
      exact w_iret G hQ rfl ⟨rfl, rfl⟩ dX2_follow_63
  replace h := (if_neg sdX2_follow_1_0).symm.trans h
  by_cases sdX2_follow_1_1 : l0 = (1 : Int32)
  · replace h := (if_pos sdX2_follow_1_1).symm.trans h
    refine w_tabIn (tgt := 64) G sdX2_follow_1_1 dX2_follow_1 (by decide) (by decide) rfl (by decide) ?_
    refine w_iload_n (pc2 := 65) G 1 rfl dX2_follow_64 rfl rfl ?_
    obtain ⟨x2, H_x2, h⟩ := bs h
    refine w_cS0 (pc2 := 68) (As := [.int l1]) (rest := []) G koX2_29 (r_X2_followKind H_x2) (Nat.le_of_ble_eq_true rfl) rfl rfl (Nat.le_of_ble_eq_true rfl) ⟨Nat.zero_le _, Nat.zero_le _⟩ dX2_follow_65 rfl rfl ?_
    cases h
    exact w_iret G hQ rfl ⟨rfl, rfl⟩ dX2_follow_68
  replace h := (if_neg sdX2_follow_1_1).symm.trans h
  by_cases sdX2_follow_1_2 : l0 = (2 : Int32)
  · replace h := (if_pos sdX2_follow_1_2).symm.trans h
    refine w_tabIn (tgt := 69) G sdX2_follow_1_2 dX2_follow_1 (by decide) (by decide) rfl (by decide) ?_
    refine w_iload_n (pc2 := 70) G 1 rfl dX2_follow_69 rfl rfl ?_
    obtain ⟨x3, H_x3, h⟩ := bs h
    refine w_cS0 (pc2 := 73) (As := [.int l1]) (rest := []) G koX2_33 (r_X2_isTens H_x3) (Nat.le_of_ble_eq_true rfl) rfl rfl (Nat.le_of_ble_eq_true rfl) ⟨Nat.zero_le _, Nat.zero_le _⟩ dX2_follow_70 rfl rfl ?_
    refine w_if_eq (tgt := 80) (pc2 := 76) G dX2_follow_73 (by decide) rfl (fun cc => ?_) (fun cc => ?_)
    · replace h := (if_pos cc).symm.trans h
      refine w_bipush (pc2 := 82) G dX2_follow_80 k_bipush_m6 rfl ?_
      cases h
      exact w_iret G hQ rfl ⟨rfl, rfl⟩ dX2_follow_82
    · replace h := (if_neg cc).symm.trans h
      refine w_iconst (pc2 := 77) G dX2_follow_76 k_iconst_3 rfl ?_
      refine w_goto (tgt := 82) G dX2_follow_77 (by decide) ?_
      cases h
      exact w_iret G hQ rfl ⟨rfl, rfl⟩ dX2_follow_82
  replace h := (if_neg sdX2_follow_1_2).symm.trans h
  by_cases sdX2_follow_1_3 : l0 = (3 : Int32)
  · replace h := (if_pos sdX2_follow_1_3).symm.trans h
    refine w_tabIn (tgt := 83) G sdX2_follow_1_3 dX2_follow_1 (by decide) (by decide) rfl (by decide) ?_
    refine w_iload_n (pc2 := 84) G 1 rfl dX2_follow_83 rfl rfl ?_
    obtain ⟨x4, H_x4, h⟩ := bs h
    refine w_cS0 (pc2 := 87) (As := [.int l1]) (rest := []) G koX2_36 (r_X2_isFigure H_x4) (Nat.le_of_ble_eq_true rfl) rfl rfl (Nat.le_of_ble_eq_true rfl) ⟨Nat.zero_le _, Nat.zero_le _⟩ dX2_follow_84 rfl rfl ?_
    refine w_if_eq (tgt := 94) (pc2 := 90) G dX2_follow_87 (by decide) rfl (fun cc => ?_) (fun cc => ?_)
    · replace h := (if_pos cc).symm.trans h
      refine w_bipush (pc2 := 96) G dX2_follow_94 k_bipush_m6 rfl ?_
      cases h
      exact w_iret G hQ rfl ⟨rfl, rfl⟩ dX2_follow_96
    · replace h := (if_neg cc).symm.trans h
      refine w_iconst (pc2 := 91) G dX2_follow_90 k_iconst_0 rfl ?_
      refine w_goto (tgt := 96) G dX2_follow_91 (by decide) ?_
      cases h
      exact w_iret G hQ rfl ⟨rfl, rfl⟩ dX2_follow_96
  replace h := (if_neg sdX2_follow_1_3).symm.trans h
  by_cases sdX2_follow_1_4 : l0 = (4 : Int32)
  · replace h := (if_pos sdX2_follow_1_4).symm.trans h
    refine w_tabIn (tgt := 97) G sdX2_follow_1_4 dX2_follow_1 (by decide) (by decide) rfl (by decide) ?_
    refine w_iload_n (pc2 := 98) G 1 rfl dX2_follow_97 rfl rfl ?_
    obtain ⟨x5, H_x5, h⟩ := bs h
    refine w_cS0 (pc2 := 101) (As := [.int l1]) (rest := []) G koX2_33 (r_X2_isTens H_x5) (Nat.le_of_ble_eq_true rfl) rfl rfl (Nat.le_of_ble_eq_true rfl) ⟨Nat.zero_le _, Nat.zero_le _⟩ dX2_follow_98 rfl rfl ?_
    refine w_if_eq (tgt := 108) (pc2 := 104) G dX2_follow_101 (by decide) rfl (fun cc => ?_) (fun cc => ?_)
    · replace h := (if_pos cc).symm.trans h
      refine w_bipush (pc2 := 110) G dX2_follow_108 k_bipush_m6 rfl ?_
      cases h
      exact w_iret G hQ rfl ⟨rfl, rfl⟩ dX2_follow_110
    · replace h := (if_neg cc).symm.trans h
      refine w_iconst (pc2 := 105) G dX2_follow_104 k_iconst_5 rfl ?_
      refine w_goto (tgt := 110) G dX2_follow_105 (by decide) ?_
      cases h
      exact w_iret G hQ rfl ⟨rfl, rfl⟩ dX2_follow_110
  replace h := (if_neg sdX2_follow_1_4).symm.trans h
  by_cases sdX2_follow_1_5 : l0 = (5 : Int32)
  · replace h := (if_pos sdX2_follow_1_5).symm.trans h
    refine w_tabIn (tgt := 111) G sdX2_follow_1_5 dX2_follow_1 (by decide) (by decide) rfl (by decide) ?_
    refine w_iload_n (pc2 := 112) G 1 rfl dX2_follow_111 rfl rfl ?_
    obtain ⟨x6, H_x6, h⟩ := bs h
    refine w_cS0 (pc2 := 115) (As := [.int l1]) (rest := []) G koX2_36 (r_X2_isFigure H_x6) (Nat.le_of_ble_eq_true rfl) rfl rfl (Nat.le_of_ble_eq_true rfl) ⟨Nat.zero_le _, Nat.zero_le _⟩ dX2_follow_112 rfl rfl ?_
    refine w_if_eq (tgt := 123) (pc2 := 118) G dX2_follow_115 (by decide) rfl (fun cc => ?_) (fun cc => ?_)
    · replace h := (if_pos cc).symm.trans h
      refine w_bipush (pc2 := 125) G dX2_follow_123 k_bipush_m6 rfl ?_
      cases h
      exact w_iret G hQ rfl ⟨rfl, rfl⟩ dX2_follow_125
    · replace h := (if_neg cc).symm.trans h
      refine w_bipush (pc2 := 120) G dX2_follow_118 k_bipush_6 rfl ?_
      refine w_goto (tgt := 125) G dX2_follow_120 (by decide) ?_
      cases h
      exact w_iret G hQ rfl ⟨rfl, rfl⟩ dX2_follow_125
  replace h := (if_neg sdX2_follow_1_5).symm.trans h
  refine w_tabOut (tgt := 126) G dX2_follow_1 (by have e0 := ne_ti sdX2_follow_1_0; have e1 := ne_ti sdX2_follow_1_1; have e2 := ne_ti sdX2_follow_1_2; have e3 := ne_ti sdX2_follow_1_3; have e4 := ne_ti sdX2_follow_1_4; have e5 := ne_ti sdX2_follow_1_5; rw [show (0 : Int32).toInt = 0 from rfl] at e0; rw [show (1 : Int32).toInt = 1 from rfl] at e1; rw [show (2 : Int32).toInt = 2 from rfl] at e2; rw [show (3 : Int32).toInt = 3 from rfl] at e3; rw [show (4 : Int32).toInt = 4 from rfl] at e4; rw [show (5 : Int32).toInt = 5 from rfl] at e5; omega) (by decide) ?_
  refine w_iload_n (pc2 := 127) G 1 rfl dX2_follow_126 rfl rfl ?_
  obtain ⟨x7, H_x7, h⟩ := bs h
  refine w_cS0 (pc2 := 130) (As := [.int l1]) (rest := []) G koX2_25 (r_X2_isLetter H_x7) (Nat.le_of_ble_eq_true rfl) rfl rfl (Nat.le_of_ble_eq_true rfl) ⟨Nat.zero_le _, Nat.zero_le _⟩ dX2_follow_127 rfl rfl ?_
  refine w_if_eq (tgt := 137) (pc2 := 133) G dX2_follow_130 (by decide) rfl (fun cc => ?_) (fun cc => ?_)
  · replace h := (if_pos cc).symm.trans h
    refine w_bipush (pc2 := 139) G dX2_follow_137 k_bipush_m6 rfl ?_
    cases h
    exact w_iret G hQ rfl ⟨rfl, rfl⟩ dX2_follow_139
  · replace h := (if_neg cc).symm.trans h
    refine w_iconst (pc2 := 134) G dX2_follow_133 k_iconst_0 rfl ?_
    refine w_goto (tgt := 139) G dX2_follow_134 (by decide) ?_
    cases h
    exact w_iret G hQ rfl ⟨rfl, rfl⟩ dX2_follow_139

set_option maxHeartbeats 4000000 in
set_option maxRecDepth 100000 in
theorem lp_X2_firstFault_4 {g : CX} {E : EV} {a : Nat → Nat} {o : Nat}   (G : GG g E RX2 cX2_firstFault 3 (some .int) 3 0 0) {R : Int32} {c_signs : Nat → Int32} {c_count : Int32} (hQ : RQ g E 0 0 (fun v2 w2 => v2 = (some (.int R)) ∧ w2 = (wX2 E a o c_signs c_count))) : ∀ (n : Nat) (l1 : Int32) (l2 : Int32), L_X2_firstFault_4 n c_signs c_count l1 l2 = some R → WW g E 3 0 0 (wX2 E a o c_signs c_count) [(0, .ref (a o)), (1, .int l1), (2, .int l2)] 4 [] := by
  intro n
  induction n with
  | zero => intro l1 l2 h; exact no_some h
  | succ n ih =>
    intro l1 l2 h
    rw [L_X2_firstFault_4] at h
    refine w_iload_n (pc2 := 5) G 2 rfl dX2_firstFault_4 rfl rfl ?_
    refine w_aload_n (pc2 := 6) G 0 rfl dX2_firstFault_5 rfl rfl ?_
    refine w_get (pc2 := 9) G foX2_15 0 rfl rfl dX2_firstFault_6 rfl ?_
    refine w_icmp_ge (tgt := 37) (pc2 := 12) G dX2_firstFault_9 (by decide) rfl (fun cc => ?_) (fun cc => ?_)
    · replace h := (if_pos cc).symm.trans h
      refine w_iload_n (pc2 := 38) G 1 rfl dX2_firstFault_37 rfl rfl ?_
      refine w_if_ne (tgt := 46) (pc2 := 41) G dX2_firstFault_38 (by decide) rfl (fun cc => ?_) (fun cc => ?_)
      · replace h := (if_neg cc).symm.trans h
        refine w_aload_n (pc2 := 47) G 0 rfl dX2_firstFault_46 rfl rfl ?_
        refine w_get (pc2 := 50) G foX2_15 0 rfl rfl dX2_firstFault_47 rfl ?_
        cases h
        exact w_iret G hQ rfl ⟨rfl, rfl⟩ dX2_firstFault_50
      · replace h := (if_pos cc).symm.trans h
        refine w_bipush (pc2 := 43) G dX2_firstFault_41 k_bipush_m6 rfl ?_
        refine w_goto (tgt := 50) G dX2_firstFault_43 (by decide) ?_
        cases h
        exact w_iret G hQ rfl ⟨rfl, rfl⟩ dX2_firstFault_50
    · replace h := (if_neg cc).symm.trans h
      refine w_iload_n (pc2 := 13) G 1 rfl dX2_firstFault_12 rfl rfl ?_
      refine w_aload_n (pc2 := 14) G 0 rfl dX2_firstFault_13 rfl rfl ?_
      refine w_get (pc2 := 17) G foX2_11 0 rfl rfl dX2_firstFault_14 rfl ?_
      refine w_iload_n (pc2 := 18) G 2 rfl dX2_firstFault_17 rfl rfl ?_
      obtain ⟨v1, H_v1, h⟩ := bs h
      refine w_ialdo (pc2 := 19) G 1 rfl H_v1 dX2_firstFault_18 rfl ?_
      obtain ⟨x2, H_x2, h⟩ := bs h
      refine w_cS0 (pc2 := 22) (As := [.int l1, .int v1]) (rest := []) G koX2_19 (r_X2_follow H_x2) (Nat.le_of_ble_eq_true rfl) rfl rfl (Nat.le_of_ble_eq_true rfl) ⟨Nat.zero_le _, Nat.zero_le _⟩ dX2_firstFault_19 rfl rfl ?_
      refine w_istore_n (pc2 := 23) (lv2 := [(1, .int x2), (0, .ref (a o)), (2, .int l2)]) G dX2_firstFault_22 rfl (Nat.le_of_ble_eq_true rfl) rfl rfl ?_
      refine w_iload_n (pc2 := 24) G 0 rfl dX2_firstFault_23 rfl rfl ?_
      refine w_bipush (pc2 := 26) G dX2_firstFault_24 k_bipush_m6 rfl ?_
      refine w_icmp_ne (tgt := 31) (pc2 := 29) G dX2_firstFault_26 (by decide) rfl (fun cc => ?_) (fun cc => ?_)
      · replace h := (if_neg cc).symm.trans h
        refine w_iinc (pc2 := 34) (lv2 := [(2, .int (l2 + (1 : Int32))), (1, .int x2), (0, .ref (a o))]) G 2 rfl dX2_firstFault_31 k_iconst_1 (Nat.le_of_ble_eq_true rfl) rfl rfl ?_
        refine w_goto (tgt := 4) G dX2_firstFault_34 (by decide) ?_
        exact w_lv [2, 1, 0] rfl (ih _ _ h )
      · replace h := (if_pos cc).symm.trans h
        refine w_iload_n (pc2 := 30) G 2 rfl dX2_firstFault_29 rfl rfl ?_
        cases h
        exact w_iret G hQ rfl ⟨rfl, rfl⟩ dX2_firstFault_30
set_option maxHeartbeats 4000000 in
set_option maxRecDepth 100000 in
theorem r_X2_firstFault {l : Launch} {E : EV} {a : Nat → Nat} {o : Nat} {c_signs : Nat → Int32} {c_count : Int32}  {R : Int32} (h : f_X2_firstFault c_signs c_count = some R) : Ret1 l E yX2_firstFault cX2_firstFault 3 (some .int) 3 (wX2 E a o c_signs c_count) [.ref (a o)] (some (.int R)) (wX2 E a o c_signs c_count) := by
  refine Ret.intro (lv := [(0, .ref (a o))]) (by decide) (Nat.le_of_ble_eq_true rfl) rfl ?_
  intro g hgl G hQ
  subst hgl
  rw [f_X2_firstFault] at h
  refine w_iconst (pc2 := 1) G dX2_firstFault_0 k_iconst_0 rfl ?_
  refine w_istore_n (pc2 := 2) (lv2 := [(1, .int (0 : Int32)), (0, .ref (a o))]) G dX2_firstFault_1 rfl (Nat.le_of_ble_eq_true rfl) rfl rfl ?_
  refine w_iconst (pc2 := 3) G dX2_firstFault_2 k_iconst_0 rfl ?_
  refine w_istore_n (pc2 := 4) (lv2 := [(2, .int (0 : Int32)), (1, .int (0 : Int32)), (0, .ref (a o))]) G dX2_firstFault_3 rfl (Nat.le_of_ble_eq_true rfl) rfl rfl ?_
  exact w_lv [2, 1, 0] rfl (lp_X2_firstFault_4 G hQ 20000 _ _ h)

set_option maxHeartbeats 4000000 in
set_option maxRecDepth 100000 in
theorem r_X2_sign {l : Launch} {E : EV} {a : Nat → Nat} {o : Nat} {c_signs : Nat → Int32} {c_count : Int32} {l1 : Int32} {R : Int32} (h : f_X2_sign c_signs c_count l1 = some R) : Ret1 l E yX2_sign cX2_sign 2 (some .int) 0 (wX2 E a o c_signs c_count) [.ref (a o), .int l1] (some (.int R)) (wX2 E a o c_signs c_count) := by
  refine Ret.intro (lv := [(0, .ref (a o)), (1, .int l1)]) (by decide) (Nat.le_of_ble_eq_true rfl) rfl ?_
  intro g hgl G hQ
  subst hgl
  rw [f_X2_sign] at h
  refine w_iload_n (pc2 := 1) G 1 rfl dX2_sign_0 rfl rfl ?_
  refine w_if_lt (tgt := 21) (pc2 := 4) G dX2_sign_1 (by decide) rfl (fun cc => ?_) (fun cc => ?_)
  · replace h := (if_pos cc).symm.trans h
    refine w_iconst (pc2 := 22) G dX2_sign_21 k_iconst_0 rfl ?_
    cases h
    exact w_iret G hQ rfl ⟨rfl, rfl⟩ dX2_sign_22
  · replace h := (if_neg cc).symm.trans h
    refine w_iload_n (pc2 := 5) G 1 rfl dX2_sign_4 rfl rfl ?_
    refine w_aload_n (pc2 := 6) G 0 rfl dX2_sign_5 rfl rfl ?_
    refine w_get (pc2 := 9) G foX2_15 0 rfl rfl dX2_sign_6 rfl ?_
    refine w_icmp_ge (tgt := 21) (pc2 := 12) G dX2_sign_9 (by decide) rfl (fun cc => ?_) (fun cc => ?_)
    · replace h := (if_pos cc).symm.trans h
      refine w_iconst (pc2 := 22) G dX2_sign_21 k_iconst_0 rfl ?_
      cases h
      exact w_iret G hQ rfl ⟨rfl, rfl⟩ dX2_sign_22
    · replace h := (if_neg cc).symm.trans h
      refine w_aload_n (pc2 := 13) G 0 rfl dX2_sign_12 rfl rfl ?_
      refine w_get (pc2 := 16) G foX2_11 0 rfl rfl dX2_sign_13 rfl ?_
      refine w_iload_n (pc2 := 17) G 1 rfl dX2_sign_16 rfl rfl ?_
      obtain ⟨v1, H_v1, h⟩ := bs h
      refine w_ialdo (pc2 := 18) G 1 rfl H_v1 dX2_sign_17 rfl ?_
      refine w_goto (tgt := 22) G dX2_sign_18 (by decide) ?_
      cases h
      exact w_iret G hQ rfl ⟨rfl, rfl⟩ dX2_sign_22

set_option maxHeartbeats 4000000 in
set_option maxRecDepth 100000 in
theorem r_X2_setAt {l : Launch} {E : EV} {a : Nat → Nat} {o : Nat} {c_signs : Nat → Int32} {c_count : Int32} {l1 : Int32} {R : Int32} (h : f_X2_setAt c_signs c_count l1 = some R) : Ret1 l E yX2_setAt cX2_setAt 3 (some .int) 1 (wX2 E a o c_signs c_count) [.ref (a o), .int l1] (some (.int R)) (wX2 E a o c_signs c_count) := by
  refine Ret.intro (lv := [(0, .ref (a o)), (1, .int l1)]) (by decide) (Nat.le_of_ble_eq_true rfl) rfl ?_
  intro g hgl G hQ
  subst hgl
  rw [f_X2_setAt] at h
  refine w_aload_n (pc2 := 1) G 0 rfl dX2_setAt_0 rfl rfl ?_
  refine w_iload_n (pc2 := 2) G 1 rfl dX2_setAt_1 rfl rfl ?_
  obtain ⟨x1, H_x1, h⟩ := bs h
  refine w_cV0 (pc2 := 5) (ws2 := (wX2 E a o c_signs c_count)) (As := [.int l1]) (rest := []) G koX2_42 (r_X2_sign H_x1) (Nat.le_of_ble_eq_true rfl) 2 rfl rfl rfl rfl (Nat.le_of_ble_eq_true rfl) ⟨Nat.zero_le _, Nat.zero_le _⟩ dX2_setAt_2 rfl rfl ?_
  refine w_bipush (pc2 := 7) G dX2_setAt_5 k_bipush_65 rfl ?_
  refine w_isub (pc2 := 8) G dX2_setAt_7 rfl ?_
  refine w_istore_n (pc2 := 9) (lv2 := [(2, .int (x1 - (65 : Int32))), (0, .ref (a o)), (1, .int l1)]) G dX2_setAt_8 rfl (Nat.le_of_ble_eq_true rfl) rfl rfl ?_
  refine w_iload_n (pc2 := 10) G 0 rfl dX2_setAt_9 rfl rfl ?_
  obtain ⟨x2, H_x2, h⟩ := bs h
  refine w_cS0N (pc2 := 13) (As := [.int (x1 - (65 : Int32))]) (rest := []) G koX2_39 (r_X7_isSet H_x2) (Nat.le_of_ble_eq_true rfl) rfl rfl (Nat.le_of_ble_eq_true rfl) ⟨Nat.zero_le _, Nat.zero_le _⟩ dX2_setAt_10 rfl rfl ?_
  refine w_if_eq (tgt := 20) (pc2 := 16) G dX2_setAt_13 (by decide) rfl (fun cc => ?_) (fun cc => ?_)
  · replace h := (if_pos cc).symm.trans h
    refine w_iconst (pc2 := 21) G dX2_setAt_20 k_iconst_0 rfl ?_
    cases h
    exact w_iret G hQ rfl ⟨rfl, rfl⟩ dX2_setAt_21
  · replace h := (if_neg cc).symm.trans h
    refine w_iload_n (pc2 := 17) G 0 rfl dX2_setAt_16 rfl rfl ?_
    refine w_goto (tgt := 21) G dX2_setAt_17 (by decide) ?_
    cases h
    exact w_iret G hQ rfl ⟨rfl, rfl⟩ dX2_setAt_21

set_option maxHeartbeats 4000000 in
set_option maxRecDepth 100000 in
theorem r_X2_read {l : Launch} {E : EV} {a : Nat → Nat} {o o1 : Nat} {c_signs : Nat → Int32} {c_count c_r1_kind c_r1_set c_r1_key c_r1_other : Int32} {l1 : Int32} {R : Int32 × Int32 × Int32 × Int32 × Int32} (h : f_X2_read c_signs c_count c_r1_kind c_r1_set c_r1_key c_r1_other l1 = some R) : Ret1 l E yX2_read cX2_read 6 (some .int) 2 ((wX2 E a o c_signs c_count) ++ (wX0 E a o1 c_r1_kind c_r1_set c_r1_key c_r1_other)) [.ref (a o), .int l1, .ref (a o1)] (some (.int R.1)) ((wX2 E a o c_signs c_count) ++ (wX0 E a o1 R.2.1 R.2.2.1 R.2.2.2.1 R.2.2.2.2)) := by
  refine Ret.intro (lv := [(0, .ref (a o)), (1, .int l1), (2, .ref (a o1))]) (by decide) (Nat.le_of_ble_eq_true rfl) rfl ?_
  intro g hgl G hQ
  subst hgl
  rw [f_X2_read] at h
  refine w_aload_n (pc2 := 1) G 0 rfl dX2_read_0 rfl rfl ?_
  refine w_iload_n (pc2 := 2) G 1 rfl dX2_read_1 rfl rfl ?_
  obtain ⟨x1, H_x1, h⟩ := bs h
  refine w_cV1 (pc2 := 5) (ws2 := ((wX2 E a o c_signs c_count) ++ (wX0 E a o1 c_r1_kind c_r1_set c_r1_key c_r1_other))) (As := [.int l1]) (rest := []) G koX2_42 (r_X2_sign (o := o) H_x1) (Nat.le_of_ble_eq_true rfl) 2 rfl rfl [0, 1] [2] [1, 2, 0] rfl rfl rfl rfl rfl rfl rfl rfl rfl (Nat.le_of_ble_eq_true rfl) ⟨Nat.zero_le _, Nat.zero_le _⟩ dX2_read_2 rfl rfl ?_
  refine w_bipush (pc2 := 7) G dX2_read_5 k_bipush_33 rfl ?_
  refine w_icmp_ne (tgt := 21) (pc2 := 10) G dX2_read_7 (by decide) rfl (fun cc => ?_) (fun cc => ?_)
  · replace h := (if_neg cc).symm.trans h
    refine w_aload_n (pc2 := 22) G 0 rfl dX2_read_21 rfl rfl ?_
    refine w_iload_n (pc2 := 23) G 1 rfl dX2_read_22 rfl rfl ?_
    obtain ⟨x2, H_x2, h⟩ := bs h
    refine w_cV1 (pc2 := 26) (ws2 := ((wX2 E a o c_signs c_count) ++ (wX0 E a o1 c_r1_kind c_r1_set c_r1_key c_r1_other))) (As := [.int l1]) (rest := []) G koX2_49 (r_X2_setAt (o := o) H_x2) (Nat.le_of_ble_eq_true rfl) 2 rfl rfl [0, 1] [2] [1, 2, 0] rfl rfl rfl rfl rfl rfl rfl rfl rfl (Nat.le_of_ble_eq_true rfl) ⟨Nat.zero_le _, Nat.zero_le _⟩ dX2_read_23 rfl rfl ?_
    refine w_istore_n (pc2 := 27) (lv2 := [(3, .int x2), (0, .ref (a o)), (1, .int l1), (2, .ref (a o1))]) G dX2_read_26 rfl (Nat.le_of_ble_eq_true rfl) rfl rfl ?_
    refine w_aload_n (pc2 := 28) G 1 rfl dX2_read_27 rfl rfl ?_
    refine w_iload_n (pc2 := 29) G 2 rfl dX2_read_28 rfl rfl ?_
    refine w_iconst (pc2 := 30) G dX2_read_29 k_iconst_1 rfl ?_
    refine w_iadd (pc2 := 31) G dX2_read_30 rfl ?_
    obtain ⟨x3, H_x3, h⟩ := bs h
    refine w_cV1 (pc2 := 34) (ws2 := ((wX2 E a o c_signs c_count) ++ (wX0 E a o1 c_r1_kind c_r1_set c_r1_key c_r1_other))) (As := [.int (l1 + (1 : Int32))]) (rest := []) G koX2_42 (r_X2_sign (o := o) H_x3) (Nat.le_of_ble_eq_true rfl) 2 rfl rfl [0, 1] [2] [1, 2, 0] rfl rfl rfl rfl rfl rfl rfl rfl rfl (Nat.le_of_ble_eq_true rfl) ⟨Nat.zero_le _, Nat.zero_le _⟩ dX2_read_31 rfl rfl ?_
    refine w_istore (pc2 := 36) (lv2 := [(4, .int x3), (3, .int x2), (0, .ref (a o)), (1, .int l1), (2, .ref (a o1))]) G dX2_read_34 (Nat.le_of_ble_eq_true rfl) rfl rfl ?_
    refine w_iload (pc2 := 38) G 0 rfl dX2_read_36 rfl ?_
    obtain ⟨x4, H_x4, h⟩ := bs h
    refine w_cS0 (pc2 := 41) (As := [.int x3]) (rest := []) G koX2_29 (r_X2_followKind H_x4) (Nat.le_of_ble_eq_true rfl) rfl rfl (Nat.le_of_ble_eq_true rfl) ⟨Nat.zero_le _, Nat.zero_le _⟩ dX2_read_38 rfl rfl ?_
    refine w_bipush (pc2 := 43) G dX2_read_41 k_bipush_6 rfl ?_
    refine w_icmp_ne (tgt := 63) (pc2 := 46) G dX2_read_43 (by decide) rfl (fun cc => ?_) (fun cc => ?_)
    · replace h := (if_neg cc).symm.trans h
      refine w_bipush (pc2 := 65) G dX2_read_63 k_bipush_10 rfl ?_
      refine w_aload_n (pc2 := 66) G 2 rfl dX2_read_65 rfl rfl ?_
      refine w_iload_n (pc2 := 67) G 3 rfl dX2_read_66 rfl rfl ?_
      refine w_iconst (pc2 := 68) G dX2_read_67 k_iconst_2 rfl ?_
      refine w_iadd (pc2 := 69) G dX2_read_68 rfl ?_
      obtain ⟨x5, H_x5, h⟩ := bs h
      refine w_cV1 (pc2 := 72) (ws2 := ((wX2 E a o c_signs c_count) ++ (wX0 E a o1 c_r1_kind c_r1_set c_r1_key c_r1_other))) (As := [.int (l1 + (2 : Int32))]) (rest := [.int (10 : Int32)]) G koX2_42 (r_X2_sign (o := o) H_x5) (Nat.le_of_ble_eq_true rfl) 2 rfl rfl [0, 1] [2] [1, 2, 0] rfl rfl rfl rfl rfl rfl rfl rfl rfl (Nat.le_of_ble_eq_true rfl) ⟨Nat.zero_le _, Nat.zero_le _⟩ dX2_read_69 rfl rfl ?_
      refine w_bipush (pc2 := 74) G dX2_read_72 k_bipush_48 rfl ?_
      refine w_isub (pc2 := 75) G dX2_read_74 rfl ?_
      refine w_imul (pc2 := 76) G dX2_read_75 rfl ?_
      refine w_aload_n (pc2 := 77) G 2 rfl dX2_read_76 rfl rfl ?_
      refine w_iload_n (pc2 := 78) G 3 rfl dX2_read_77 rfl rfl ?_
      refine w_iconst (pc2 := 79) G dX2_read_78 k_iconst_3 rfl ?_
      refine w_iadd (pc2 := 80) G dX2_read_79 rfl ?_
      obtain ⟨x6, H_x6, h⟩ := bs h
      refine w_cV1 (pc2 := 83) (ws2 := ((wX2 E a o c_signs c_count) ++ (wX0 E a o1 c_r1_kind c_r1_set c_r1_key c_r1_other))) (As := [.int (l1 + (3 : Int32))]) (rest := [.int ((10 : Int32) * (x5 - (48 : Int32)))]) G koX2_42 (r_X2_sign (o := o) H_x6) (Nat.le_of_ble_eq_true rfl) 2 rfl rfl [0, 1] [2] [1, 2, 0] rfl rfl rfl rfl rfl rfl rfl rfl rfl (Nat.le_of_ble_eq_true rfl) ⟨Nat.zero_le _, Nat.zero_le _⟩ dX2_read_80 rfl rfl ?_
      refine w_iadd (pc2 := 84) G dX2_read_83 rfl ?_
      refine w_bipush (pc2 := 86) G dX2_read_84 k_bipush_48 rfl ?_
      refine w_isub (pc2 := 87) G dX2_read_86 rfl ?_
      refine w_istore (pc2 := 89) (lv2 := [(5, .int ((((10 : Int32) * (x5 - (48 : Int32))) + x6) - (48 : Int32))), (4, .int x3), (3, .int x2), (0, .ref (a o)), (1, .int l1), (2, .ref (a o1))]) G dX2_read_87 (Nat.le_of_ble_eq_true rfl) rfl rfl ?_
      refine w_iload (pc2 := 91) G 1 rfl dX2_read_89 rfl ?_
      refine w_bipush (pc2 := 93) G dX2_read_91 k_bipush_47 rfl ?_
      refine w_icmp_ne (tgt := 114) (pc2 := 96) G dX2_read_93 (by decide) rfl (fun cc => ?_) (fun cc => ?_)
      · replace h := (if_neg cc).symm.trans h
        refine w_aload_n (pc2 := 115) G 5 rfl dX2_read_114 rfl rfl ?_
        refine w_iload (pc2 := 117) G 1 rfl dX2_read_115 rfl ?_
        refine w_iload_n (pc2 := 118) G 2 rfl dX2_read_117 rfl rfl ?_
        refine w_iload (pc2 := 120) G 0 rfl dX2_read_118 rfl ?_
        refine w_iconst (pc2 := 121) G dX2_read_120 k_iconst_0 rfl ?_
        obtain ⟨x7, H_x7, h⟩ := bs h
        refine w_cV1 (pc2 := 124) (ws2 := ((wX2 E a o c_signs c_count) ++ (wX0 E a o1 x7.1 x7.2.1 x7.2.2.1 x7.2.2.2))) (As := [.int x3, .int x2, .int ((((10 : Int32) * (x5 - (48 : Int32))) + x6) - (48 : Int32)), .int (0 : Int32)]) (rest := []) G koX2_45 (r_X0_become (o := o1) H_x7) (Nat.le_of_ble_eq_true rfl) 0 rfl rfl [2] [0, 1] [0, 1, 2] rfl rfl rfl rfl rfl rfl rfl rfl rfl (Nat.le_of_ble_eq_true rfl) ⟨Nat.zero_le _, Nat.zero_le _⟩ dX2_read_121 rfl rfl ?_
        refine w_iconst (pc2 := 125) G dX2_read_124 k_iconst_4 rfl ?_
        cases h
        exact w_iret G hQ rfl ⟨rfl, rfl⟩ dX2_read_125
      · replace h := (if_pos cc).symm.trans h
        refine w_aload_n (pc2 := 97) G 5 rfl dX2_read_96 rfl rfl ?_
        refine w_iload (pc2 := 99) G 1 rfl dX2_read_97 rfl ?_
        refine w_iload_n (pc2 := 100) G 2 rfl dX2_read_99 rfl rfl ?_
        refine w_iload (pc2 := 102) G 0 rfl dX2_read_100 rfl ?_
        refine w_aload_n (pc2 := 103) G 3 rfl dX2_read_102 rfl rfl ?_
        refine w_iload_n (pc2 := 104) G 4 rfl dX2_read_103 rfl rfl ?_
        refine w_iconst (pc2 := 105) G dX2_read_104 k_iconst_4 rfl ?_
        refine w_iadd (pc2 := 106) G dX2_read_105 rfl ?_
        obtain ⟨x8, H_x8, h⟩ := bs h
        refine w_cV1 (pc2 := 109) (ws2 := ((wX2 E a o c_signs c_count) ++ (wX0 E a o1 c_r1_kind c_r1_set c_r1_key c_r1_other))) (As := [.int (l1 + (4 : Int32))]) (rest := [.int ((((10 : Int32) * (x5 - (48 : Int32))) + x6) - (48 : Int32)), .int x2, .int x3, .ref (a o1)]) G koX2_49 (r_X2_setAt (o := o) H_x8) (Nat.le_of_ble_eq_true rfl) 2 rfl rfl [0, 1] [2] [1, 2, 0] rfl rfl rfl rfl rfl rfl rfl rfl rfl (Nat.le_of_ble_eq_true rfl) ⟨Nat.zero_le _, Nat.zero_le _⟩ dX2_read_106 rfl rfl ?_
        obtain ⟨x9, H_x9, h⟩ := bs h
        refine w_cV1 (pc2 := 112) (ws2 := ((wX2 E a o c_signs c_count) ++ (wX0 E a o1 x9.1 x9.2.1 x9.2.2.1 x9.2.2.2))) (As := [.int x3, .int x2, .int ((((10 : Int32) * (x5 - (48 : Int32))) + x6) - (48 : Int32)), .int x8]) (rest := []) G koX2_45 (r_X0_become (o := o1) H_x9) (Nat.le_of_ble_eq_true rfl) 0 rfl rfl [2] [0, 1] [0, 1, 2] rfl rfl rfl rfl rfl rfl rfl rfl rfl (Nat.le_of_ble_eq_true rfl) ⟨Nat.zero_le _, Nat.zero_le _⟩ dX2_read_109 rfl rfl ?_
        refine w_iconst (pc2 := 113) G dX2_read_112 k_iconst_5 rfl ?_
        cases h
        exact w_iret G hQ rfl ⟨rfl, rfl⟩ dX2_read_113
    · replace h := (if_pos cc).symm.trans h
      refine w_aload_n (pc2 := 47) G 4 rfl dX2_read_46 rfl rfl ?_
      refine w_iload (pc2 := 49) G 0 rfl dX2_read_47 rfl ?_
      refine w_iload_n (pc2 := 50) G 1 rfl dX2_read_49 rfl rfl ?_
      refine w_iconst (pc2 := 51) G dX2_read_50 k_iconst_0 rfl ?_
      refine w_aload_n (pc2 := 52) G 2 rfl dX2_read_51 rfl rfl ?_
      refine w_iload_n (pc2 := 53) G 3 rfl dX2_read_52 rfl rfl ?_
      refine w_iconst (pc2 := 54) G dX2_read_53 k_iconst_2 rfl ?_
      refine w_iadd (pc2 := 55) G dX2_read_54 rfl ?_
      obtain ⟨x10, H_x10, h⟩ := bs h
      refine w_cV1 (pc2 := 58) (ws2 := ((wX2 E a o c_signs c_count) ++ (wX0 E a o1 c_r1_kind c_r1_set c_r1_key c_r1_other))) (As := [.int (l1 + (2 : Int32))]) (rest := [.int (0 : Int32), .int x2, .int x3, .ref (a o1)]) G koX2_49 (r_X2_setAt (o := o) H_x10) (Nat.le_of_ble_eq_true rfl) 2 rfl rfl [0, 1] [2] [1, 2, 0] rfl rfl rfl rfl rfl rfl rfl rfl rfl (Nat.le_of_ble_eq_true rfl) ⟨Nat.zero_le _, Nat.zero_le _⟩ dX2_read_55 rfl rfl ?_
      obtain ⟨x11, H_x11, h⟩ := bs h
      refine w_cV1 (pc2 := 61) (ws2 := ((wX2 E a o c_signs c_count) ++ (wX0 E a o1 x11.1 x11.2.1 x11.2.2.1 x11.2.2.2))) (As := [.int x3, .int x2, .int (0 : Int32), .int x10]) (rest := []) G koX2_45 (r_X0_become (o := o1) H_x11) (Nat.le_of_ble_eq_true rfl) 0 rfl rfl [2] [0, 1] [0, 1, 2] rfl rfl rfl rfl rfl rfl rfl rfl rfl (Nat.le_of_ble_eq_true rfl) ⟨Nat.zero_le _, Nat.zero_le _⟩ dX2_read_58 rfl rfl ?_
      refine w_iconst (pc2 := 62) G dX2_read_61 k_iconst_3 rfl ?_
      cases h
      exact w_iret G hQ rfl ⟨rfl, rfl⟩ dX2_read_62
  · replace h := (if_pos cc).symm.trans h
    refine w_aload_n (pc2 := 11) G 2 rfl dX2_read_10 rfl rfl ?_
    refine w_bipush (pc2 := 13) G dX2_read_11 k_bipush_33 rfl ?_
    refine w_iconst (pc2 := 14) G dX2_read_13 k_iconst_0 rfl ?_
    refine w_iconst (pc2 := 15) G dX2_read_14 k_iconst_0 rfl ?_
    refine w_iconst (pc2 := 16) G dX2_read_15 k_iconst_0 rfl ?_
    obtain ⟨x12, H_x12, h⟩ := bs h
    refine w_cV1 (pc2 := 19) (ws2 := ((wX2 E a o c_signs c_count) ++ (wX0 E a o1 x12.1 x12.2.1 x12.2.2.1 x12.2.2.2))) (As := [.int (33 : Int32), .int (0 : Int32), .int (0 : Int32), .int (0 : Int32)]) (rest := []) G koX2_45 (r_X0_become (o := o1) H_x12) (Nat.le_of_ble_eq_true rfl) 0 rfl rfl [2] [0, 1] [0, 1, 2] rfl rfl rfl rfl rfl rfl rfl rfl rfl (Nat.le_of_ble_eq_true rfl) ⟨Nat.zero_le _, Nat.zero_le _⟩ dX2_read_16 rfl rfl ?_
    refine w_iconst (pc2 := 20) G dX2_read_19 k_iconst_1 rfl ?_
    cases h
    exact w_iret G hQ rfl ⟨rfl, rfl⟩ dX2_read_20
