set_option maxHeartbeats 4000000 in
set_option maxRecDepth 100000 in
theorem lp_X4_grow_56 {g : CX} {E : EV} {a : Nat → Nat} {o : Nat} {c_root c_pricedBy : Int32} {l1 : Int64} (G : GG g E RX4 cX4_grow 6 none 2 0 0) : ∀ (n : Nat) (c_left : Nat → Int32) (c_right : Nat → Int32) (c_parent : Nat → Int32) (c_span : Nat → Int64) (c_digest : Nat → Int32) (c_height : Nat → Int32) (c_priority : Nat → Int32) (c_open : Nat → Int32) (l4 : Int32) (l5 : Int32) (R : Int32 × (Nat → Int32) × (Nat → Int32) × (Nat → Int64) × (Nat → Int32) × (Nat → Int32)), L_X4_grow_56 n c_left c_right c_parent c_span c_digest c_height c_priority c_open l4 l5 = some R → WW g E 6 0 0 (wX4 E a o R.2.1 c_right R.2.2.1 R.2.2.2.1 c_root R.2.2.2.2.1 R.2.2.2.2.2 c_priority c_pricedBy c_open) [(0, .ref (a o)), (1, .long l1), (5, .int l5), (4, .int R.1)] 116 [] → WW g E 6 0 0 (wX4 E a o c_left c_right c_parent c_span c_root c_digest c_height c_priority c_pricedBy c_open) [(0, .ref (a o)), (1, .long l1), (4, .int l4), (5, .int l5)] 56 [] := by
  intro n
  induction n with
  | zero => intro c_left c_right c_parent c_span c_digest c_height c_priority c_open l4 l5 R h; exact no_some h
  | succ n ih =>
    intro c_left c_right c_parent c_span c_digest c_height c_priority c_open l4 l5 R h K
    rw [L_X4_grow_56] at h
    refine w_iload (pc2 := 58) G 2 rfl dX4_grow_56 rfl ?_
    refine w_if_le (tgt := 116) (pc2 := 61) G dX4_grow_58 (by decide) rfl (fun cc => ?_) (fun cc => ?_)
    · replace h := (if_pos cc).symm.trans h
      cases h
      exact w_lv [0, 1, 3, 2] rfl K
    · replace h := (if_neg cc).symm.trans h
      refine w_aload_n (pc2 := 62) G 0 rfl dX4_grow_61 rfl rfl ?_
      refine w_get (pc2 := 65) G foX4_31 0 rfl rfl dX4_grow_62 rfl ?_
      refine w_aload_n (pc2 := 66) G 0 rfl dX4_grow_65 rfl rfl ?_
      refine w_get (pc2 := 69) G foX4_38 0 rfl rfl dX4_grow_66 rfl ?_
      refine w_iload (pc2 := 71) G 2 rfl dX4_grow_69 rfl ?_
      refine w_iconst (pc2 := 72) G dX4_grow_71 k_iconst_1 rfl ?_
      refine w_isub (pc2 := 73) G dX4_grow_72 rfl ?_
      obtain ⟨v1, H_v1, h⟩ := bs h
      refine w_ialdo (pc2 := 74) G 8 rfl H_v1 dX4_grow_73 rfl ?_
      obtain ⟨v2, H_v2, h⟩ := bs h
      refine w_ialdo (pc2 := 75) G 7 rfl H_v2 dX4_grow_74 rfl ?_
      refine w_aload_n (pc2 := 76) G 0 rfl dX4_grow_75 rfl rfl ?_
      refine w_get (pc2 := 79) G foX4_31 0 rfl rfl dX4_grow_76 rfl ?_
      refine w_iload (pc2 := 81) G 3 rfl dX4_grow_79 rfl ?_
      obtain ⟨v3, H_v3, h⟩ := bs h
      refine w_ialdo (pc2 := 82) G 7 rfl H_v3 dX4_grow_81 rfl ?_
      refine w_icmp_ge (tgt := 116) (pc2 := 85) G dX4_grow_82 (by decide) rfl (fun cc => ?_) (fun cc => ?_)
      · replace h := (if_pos cc).symm.trans h
        cases h
        exact w_lv [0, 1, 3, 2] rfl K
      · replace h := (if_neg cc).symm.trans h
        refine w_iinc (pc2 := 88) (lv2 := [(4, .int (l4 + (-1 : Int32))), (0, .ref (a o)), (1, .long l1), (5, .int l5)]) G 2 rfl dX4_grow_85 k_iconst_m1 (Nat.le_of_ble_eq_true rfl) rfl rfl ?_
        refine w_aload_n (pc2 := 89) G 1 rfl dX4_grow_88 rfl rfl ?_
        refine w_get (pc2 := 92) G foX4_9 0 rfl rfl dX4_grow_89 rfl ?_
        refine w_iload (pc2 := 94) G 3 rfl dX4_grow_92 rfl ?_
        refine w_aload_n (pc2 := 95) G 1 rfl dX4_grow_94 rfl rfl ?_
        refine w_get (pc2 := 98) G foX4_38 0 rfl rfl dX4_grow_95 rfl ?_
        refine w_iload (pc2 := 100) G 0 rfl dX4_grow_98 rfl ?_
        obtain ⟨v4, H_v4, h⟩ := bs h
        refine w_ialdo (pc2 := 101) G 8 rfl H_v4 dX4_grow_100 rfl ?_
        obtain ⟨f5, H_f5, h⟩ := bs h
        refine w_iasto (pc2 := 102) (ws2 := (wX4 E a o f5 c_right c_parent c_span c_root c_digest c_height c_priority c_pricedBy c_open)) G 1 rfl H_f5 rfl dX4_grow_101 rfl ?_
        refine w_aload_n (pc2 := 103) G 1 rfl dX4_grow_102 rfl rfl ?_
        refine w_aload_n (pc2 := 104) G 1 rfl dX4_grow_103 rfl rfl ?_
        refine w_get (pc2 := 107) G foX4_9 0 rfl rfl dX4_grow_104 rfl ?_
        refine w_iload (pc2 := 109) G 3 rfl dX4_grow_107 rfl ?_
        obtain ⟨v6, H_v6, h⟩ := bs h
        refine w_ialdo (pc2 := 110) G 1 rfl H_v6 dX4_grow_109 rfl ?_
        obtain ⟨x7, H_x7, h⟩ := bs h
        refine w_cV0 (pc2 := 113) (ws2 := (wX4 E a o f5 c_right x7.1 x7.2.1 c_root x7.2.2.1 x7.2.2.2 c_priority c_pricedBy c_open)) (As := [.int v6]) (rest := []) G koX4_49 (r_X4_finish H_x7) (Nat.le_of_ble_eq_true rfl) 4 rfl rfl rfl rfl (Nat.le_of_ble_eq_true rfl) ⟨Nat.zero_le _, Nat.zero_le _⟩ dX4_grow_110 rfl rfl ?_
        refine w_goto (tgt := 56) G dX4_grow_113 (by decide) ?_
        exact w_lv [1, 2, 0, 3] rfl (ih _ _ _ _ _ _ _ _ _ _ _ h K)
set_option maxHeartbeats 4000000 in
set_option maxRecDepth 100000 in
theorem lp_X4_grow_11 {g : CX} {E : EV} {a : Nat → Nat} {o : Nat} {c_root c_pricedBy : Int32}  (G : GG g E RX4 cX4_grow 6 none 2 0 0) : ∀ (n : Nat) (c_left : Nat → Int32) (c_right : Nat → Int32) (c_parent : Nat → Int32) (c_span : Nat → Int64) (c_digest : Nat → Int32) (c_height : Nat → Int32) (c_priority : Nat → Int32) (c_open : Nat → Int32) (l1 : Int64) (l4 : Int32) (l5 : Int32) (R : Int32 × (Nat → Int32) × (Nat → Int32) × (Nat → Int32) × (Nat → Int64) × (Nat → Int32) × (Nat → Int32) × (Nat → Int32)), L_X4_grow_11 n c_left c_right c_parent c_span c_digest c_height c_priority c_open l1 l4 l5 = some R → WW g E 6 0 0 (wX4 E a o R.2.1 R.2.2.1 R.2.2.2.1 R.2.2.2.2.1 c_root R.2.2.2.2.2.1 R.2.2.2.2.2.2.1 c_priority c_pricedBy R.2.2.2.2.2.2.2) [(0, .ref (a o)), (4, .int R.1)] 155 [] → WW g E 6 0 0 (wX4 E a o c_left c_right c_parent c_span c_root c_digest c_height c_priority c_pricedBy c_open) [(0, .ref (a o)), (1, .long l1), (4, .int l4), (5, .int l5)] 11 [] := by
  intro n
  induction n with
  | zero => intro c_left c_right c_parent c_span c_digest c_height c_priority c_open l1 l4 l5 R h; exact no_some h
  | succ n ih =>
    intro c_left c_right c_parent c_span c_digest c_height c_priority c_open l1 l4 l5 R h K
    rw [L_X4_grow_11] at h
    refine w_iload (pc2 := 13) G 3 rfl dX4_grow_11 rfl ?_
    refine w_bipush (pc2 := 15) G dX4_grow_13 k_bipush_50 rfl ?_
    refine w_icmp_ge (tgt := 155) (pc2 := 18) G dX4_grow_15 (by decide) rfl (fun cc => ?_) (fun cc => ?_)
    · replace h := (if_pos cc).symm.trans h
      cases h
      exact w_lv [0, 2] rfl K
    · replace h := (if_neg cc).symm.trans h
      refine w_aload_n (pc2 := 19) G 0 rfl dX4_grow_18 rfl rfl ?_
      refine w_get (pc2 := 22) G foX4_21 0 rfl rfl dX4_grow_19 rfl ?_
      refine w_iload (pc2 := 24) G 3 rfl dX4_grow_22 rfl ?_
      refine w_lconst (pc2 := 25) G dX4_grow_24 k_lconst_0 rfl ?_
      obtain ⟨f1, H_f1, h⟩ := bs h
      refine w_lasto (pc2 := 26) (ws2 := (wX4 E a o c_left c_right c_parent f1 c_root c_digest c_height c_priority c_pricedBy c_open)) G 4 rfl H_f1 rfl dX4_grow_25 rfl ?_
      refine w_lload_n (pc2 := 27) G 1 rfl dX4_grow_26 rfl rfl ?_
      refine w_iload (pc2 := 29) G 3 rfl dX4_grow_27 rfl ?_
      obtain ⟨x2, H_x2, h⟩ := bs h
      refine w_cS0N (pc2 := 32) (As := [.long l1, .int l5]) (rest := []) G koX4_45 (r_X7_isIn H_x2) (Nat.le_of_ble_eq_true rfl) rfl rfl (Nat.le_of_ble_eq_true rfl) ⟨Nat.zero_le _, Nat.zero_le _⟩ dX4_grow_29 rfl rfl ?_
      refine w_if_ne (tgt := 38) (pc2 := 35) G dX4_grow_32 (by decide) rfl (fun cc => ?_) (fun cc => ?_)
      · replace h := (if_neg cc).symm.trans h
        refine w_aload_n (pc2 := 39) G 0 rfl dX4_grow_38 rfl rfl ?_
        refine w_get (pc2 := 42) G foX4_9 0 rfl rfl dX4_grow_39 rfl ?_
        refine w_iload (pc2 := 44) G 3 rfl dX4_grow_42 rfl ?_
        refine w_bipush (pc2 := 46) G dX4_grow_44 k_bipush_m6 rfl ?_
        obtain ⟨f3, H_f3, h⟩ := bs h
        refine w_iasto (pc2 := 47) (ws2 := (wX4 E a o f3 c_right c_parent f1 c_root c_digest c_height c_priority c_pricedBy c_open)) G 1 rfl H_f3 rfl dX4_grow_46 rfl ?_
        refine w_aload_n (pc2 := 48) G 0 rfl dX4_grow_47 rfl rfl ?_
        refine w_get (pc2 := 51) G foX4_15 0 rfl rfl dX4_grow_48 rfl ?_
        refine w_iload (pc2 := 53) G 3 rfl dX4_grow_51 rfl ?_
        refine w_bipush (pc2 := 55) G dX4_grow_53 k_bipush_m6 rfl ?_
        obtain ⟨f4, H_f4, h⟩ := bs h
        refine w_iasto (pc2 := 56) (ws2 := (wX4 E a o f3 f4 c_parent f1 c_root c_digest c_height c_priority c_pricedBy c_open)) G 2 rfl H_f4 rfl dX4_grow_55 rfl ?_
        obtain ⟨x5, h0, h⟩ := bs h
        have K_x5 : WW g E 6 0 0 (wX4 E a o x5.2.1 f4 x5.2.2.1 x5.2.2.2.1 c_root x5.2.2.2.2.1 x5.2.2.2.2.2 c_priority c_pricedBy c_open) [(0, .ref (a o)), (1, .long l1), (5, .int l5), (4, .int x5.1)] 116 [] := by
          clear h0
          refine w_iload (pc2 := 118) G 3 rfl dX4_grow_116 rfl ?_
          refine w_if_le (tgt := 137) (pc2 := 121) G dX4_grow_118 (by decide) rfl (fun cc => ?_) (fun cc => ?_)
          · replace h := (if_pos cc).symm.trans h
            refine w_aload_n (pc2 := 138) G 0 rfl dX4_grow_137 rfl rfl ?_
            refine w_get (pc2 := 141) G foX4_38 0 rfl rfl dX4_grow_138 rfl ?_
            refine w_iload (pc2 := 143) G 3 rfl dX4_grow_141 rfl ?_
            refine w_iload (pc2 := 145) G 2 rfl dX4_grow_143 rfl ?_
            obtain ⟨f6, H_f6, h⟩ := bs h
            refine w_iasto (pc2 := 146) (ws2 := (wX4 E a o x5.2.1 f4 x5.2.2.1 x5.2.2.2.1 c_root x5.2.2.2.2.1 x5.2.2.2.2.2 c_priority c_pricedBy f6)) G 8 rfl H_f6 rfl dX4_grow_145 rfl ?_
            refine w_iinc (pc2 := 149) (lv2 := [(4, .int (x5.1 + (1 : Int32))), (0, .ref (a o)), (1, .long l1), (5, .int l5)]) G 3 rfl dX4_grow_146 k_iconst_1 (Nat.le_of_ble_eq_true rfl) rfl rfl ?_
            refine w_iinc (pc2 := 152) (lv2 := [(5, .int (l5 + (1 : Int32))), (4, .int (x5.1 + (1 : Int32))), (0, .ref (a o)), (1, .long l1)]) G 3 rfl dX4_grow_149 k_iconst_1 (Nat.le_of_ble_eq_true rfl) rfl rfl ?_
            refine w_goto (tgt := 11) G dX4_grow_152 (by decide) ?_
            exact w_lv [2, 3, 1, 0] rfl (ih _ _ _ _ _ _ _ _ _ _ _ _ h K)
          · replace h := (if_neg cc).symm.trans h
            refine w_aload_n (pc2 := 122) G 0 rfl dX4_grow_121 rfl rfl ?_
            refine w_get (pc2 := 125) G foX4_15 0 rfl rfl dX4_grow_122 rfl ?_
            refine w_aload_n (pc2 := 126) G 0 rfl dX4_grow_125 rfl rfl ?_
            refine w_get (pc2 := 129) G foX4_38 0 rfl rfl dX4_grow_126 rfl ?_
            refine w_iload (pc2 := 131) G 3 rfl dX4_grow_129 rfl ?_
            refine w_iconst (pc2 := 132) G dX4_grow_131 k_iconst_1 rfl ?_
            refine w_isub (pc2 := 133) G dX4_grow_132 rfl ?_
            obtain ⟨v7, H_v7, h⟩ := bs h
            refine w_ialdo (pc2 := 134) G 8 rfl H_v7 dX4_grow_133 rfl ?_
            refine w_iload (pc2 := 136) G 2 rfl dX4_grow_134 rfl ?_
            obtain ⟨f8, H_f8, h⟩ := bs h
            refine w_iasto (pc2 := 137) (ws2 := (wX4 E a o x5.2.1 f8 x5.2.2.1 x5.2.2.2.1 c_root x5.2.2.2.2.1 x5.2.2.2.2.2 c_priority c_pricedBy c_open)) G 2 rfl H_f8 rfl dX4_grow_136 rfl ?_
            refine w_aload_n (pc2 := 138) G 0 rfl dX4_grow_137 rfl rfl ?_
            refine w_get (pc2 := 141) G foX4_38 0 rfl rfl dX4_grow_138 rfl ?_
            refine w_iload (pc2 := 143) G 3 rfl dX4_grow_141 rfl ?_
            refine w_iload (pc2 := 145) G 2 rfl dX4_grow_143 rfl ?_
            obtain ⟨f9, H_f9, h⟩ := bs h
            refine w_iasto (pc2 := 146) (ws2 := (wX4 E a o x5.2.1 f8 x5.2.2.1 x5.2.2.2.1 c_root x5.2.2.2.2.1 x5.2.2.2.2.2 c_priority c_pricedBy f9)) G 8 rfl H_f9 rfl dX4_grow_145 rfl ?_
            refine w_iinc (pc2 := 149) (lv2 := [(4, .int (x5.1 + (1 : Int32))), (0, .ref (a o)), (1, .long l1), (5, .int l5)]) G 3 rfl dX4_grow_146 k_iconst_1 (Nat.le_of_ble_eq_true rfl) rfl rfl ?_
            refine w_iinc (pc2 := 152) (lv2 := [(5, .int (l5 + (1 : Int32))), (4, .int (x5.1 + (1 : Int32))), (0, .ref (a o)), (1, .long l1)]) G 3 rfl dX4_grow_149 k_iconst_1 (Nat.le_of_ble_eq_true rfl) rfl rfl ?_
            refine w_goto (tgt := 11) G dX4_grow_152 (by decide) ?_
            exact w_lv [2, 3, 1, 0] rfl (ih _ _ _ _ _ _ _ _ _ _ _ _ h K)
        exact w_lv [0, 1, 2, 3] rfl (lp_X4_grow_56 G 20000 _ _ _ _ _ _ _ _ _ _ _ h0 (w_lv [0, 1, 2, 3] rfl K_x5))
      · replace h := (if_pos cc).symm.trans h
        refine w_goto (tgt := 149) G dX4_grow_35 (by decide) ?_
        refine w_iinc (pc2 := 152) (lv2 := [(5, .int (l5 + (1 : Int32))), (0, .ref (a o)), (1, .long l1), (4, .int l4)]) G 3 rfl dX4_grow_149 k_iconst_1 (Nat.le_of_ble_eq_true rfl) rfl rfl ?_
        refine w_goto (tgt := 11) G dX4_grow_152 (by decide) ?_
        exact w_lv [1, 2, 3, 0] rfl (ih _ _ _ _ _ _ _ _ _ _ _ _ h K)
set_option maxHeartbeats 4000000 in
set_option maxRecDepth 100000 in
theorem lp_X4_grow_161 {g : CX} {E : EV} {a : Nat → Nat} {o : Nat} {c_priority : Nat → Int32} {c_pricedBy : Int32}  (G : GG g E RX4 cX4_grow 6 none 2 0 0) : ∀ (n : Nat) (c_left : Nat → Int32) (c_right : Nat → Int32) (c_parent : Nat → Int32) (c_span : Nat → Int64) (c_root : Int32) (c_digest : Nat → Int32) (c_height : Nat → Int32) (c_open : Nat → Int32) (l4 : Int32) (R : (Nat → Int32) × (Nat → Int64) × Int32 × (Nat → Int32) × (Nat → Int32)), L_X4_grow_161 n c_left c_right c_parent c_span c_root c_digest c_height c_open l4 = some R → WW g E 6 0 0 (wX4 E a o c_left c_right R.1 R.2.1 R.2.2.1 R.2.2.2.1 R.2.2.2.2 c_priority c_pricedBy c_open) [(0, .ref (a o))] 191 [] → WW g E 6 0 0 (wX4 E a o c_left c_right c_parent c_span c_root c_digest c_height c_priority c_pricedBy c_open) [(0, .ref (a o)), (4, .int l4)] 161 [] := by
  intro n
  induction n with
  | zero => intro c_left c_right c_parent c_span c_root c_digest c_height c_open l4 R h; exact no_some h
  | succ n ih =>
    intro c_left c_right c_parent c_span c_root c_digest c_height c_open l4 R h K
    rw [L_X4_grow_161] at h
    refine w_iload (pc2 := 163) G 1 rfl dX4_grow_161 rfl ?_
    refine w_if_le (tgt := 191) (pc2 := 166) G dX4_grow_163 (by decide) rfl (fun cc => ?_) (fun cc => ?_)
    · replace h := (if_pos cc).symm.trans h
      cases h
      exact w_lv [0] rfl K
    · replace h := (if_neg cc).symm.trans h
      refine w_iinc (pc2 := 169) (lv2 := [(4, .int (l4 + (-1 : Int32))), (0, .ref (a o))]) G 1 rfl dX4_grow_166 k_iconst_m1 (Nat.le_of_ble_eq_true rfl) rfl rfl ?_
      refine w_aload_n (pc2 := 170) G 1 rfl dX4_grow_169 rfl rfl ?_
      refine w_aload_n (pc2 := 171) G 1 rfl dX4_grow_170 rfl rfl ?_
      refine w_get (pc2 := 174) G foX4_38 0 rfl rfl dX4_grow_171 rfl ?_
      refine w_iload (pc2 := 176) G 0 rfl dX4_grow_174 rfl ?_
      obtain ⟨v1, H_v1, h⟩ := bs h
      refine w_ialdo (pc2 := 177) G 8 rfl H_v1 dX4_grow_176 rfl ?_
      refine w_put (pc2 := 180) (ws2 := (wX4 E a o c_left c_right c_parent c_span v1 c_digest c_height c_priority c_pricedBy c_open)) G foX4_52 tokX4 0 rfl rfl rfl rfl (Nat.le_of_ble_eq_true rfl) rfl dX4_grow_177 rfl ?_
      refine w_aload_n (pc2 := 181) G 1 rfl dX4_grow_180 rfl rfl ?_
      refine w_aload_n (pc2 := 182) G 1 rfl dX4_grow_181 rfl rfl ?_
      refine w_get (pc2 := 185) G foX4_52 0 rfl rfl dX4_grow_182 rfl ?_
      obtain ⟨x2, H_x2, h⟩ := bs h
      refine w_cV0 (pc2 := 188) (ws2 := (wX4 E a o c_left c_right x2.1 x2.2.1 v1 x2.2.2.1 x2.2.2.2 c_priority c_pricedBy c_open)) (As := [.int v1]) (rest := []) G koX4_49 (r_X4_finish H_x2) (Nat.le_of_ble_eq_true rfl) 4 rfl rfl rfl rfl (Nat.le_of_ble_eq_true rfl) ⟨Nat.zero_le _, Nat.zero_le _⟩ dX4_grow_185 rfl rfl ?_
      refine w_goto (tgt := 161) G dX4_grow_188 (by decide) ?_
      exact w_lv [1, 0] rfl (ih _ _ _ _ _ _ _ _ _ _ h K)
set_option maxHeartbeats 4000000 in
set_option maxRecDepth 100000 in
theorem r_X4_grow {l : Launch} {E : EV} {a : Nat → Nat} {o : Nat} {c_left c_right c_parent : Nat → Int32} {c_span : Nat → Int64} {c_root : Int32} {c_digest c_height c_priority : Nat → Int32} {c_pricedBy : Int32} {c_open : Nat → Int32} {l1 : Int64} {l3 : Int32} {R : (Nat → Int32) × (Nat → Int32) × (Nat → Int32) × (Nat → Int64) × Int32 × (Nat → Int32) × (Nat → Int32) × (Nat → Int32) × Int32 × (Nat → Int32)} (h : f_X4_grow c_left c_right c_parent c_span c_root c_digest c_height c_priority c_pricedBy c_open l1 l3 = some R) : Ret1 l E yX4_grow cX4_grow 6 none 2 (wX4 E a o c_left c_right c_parent c_span c_root c_digest c_height c_priority c_pricedBy c_open) [.ref (a o), .long l1, .int l3] none (wX4 E a o R.1 R.2.1 R.2.2.1 R.2.2.2.1 R.2.2.2.2.1 R.2.2.2.2.2.1 R.2.2.2.2.2.2.1 R.2.2.2.2.2.2.2.1 R.2.2.2.2.2.2.2.2.1 R.2.2.2.2.2.2.2.2.2) := by
  refine Ret.intro (lv := [(0, .ref (a o)), (1, .long l1), (3, .int l3)]) (by decide) (Nat.le_of_ble_eq_true rfl) rfl ?_
  intro g hgl G hQ
  subst hgl
  rw [f_X4_grow] at h
  refine w_aload_n (pc2 := 1) G 0 rfl dX4_grow_0 rfl rfl ?_
  refine w_iload_n (pc2 := 2) G 2 rfl dX4_grow_1 rfl rfl ?_
  obtain ⟨x1, H_x1, h⟩ := bs h
  refine w_cV0 (pc2 := 5) (ws2 := (wX4 E a o c_left c_right c_parent c_span c_root c_digest c_height x1.1 x1.2 c_open)) (As := [.int l3]) (rest := []) G koX4_41 (r_X4_price H_x1) (Nat.le_of_ble_eq_true rfl) 4 rfl rfl rfl rfl (Nat.le_of_ble_eq_true rfl) ⟨Nat.zero_le _, Nat.zero_le _⟩ dX4_grow_2 rfl rfl ?_
  refine w_iconst (pc2 := 6) G dX4_grow_5 k_iconst_0 rfl ?_
  refine w_istore (pc2 := 8) (lv2 := [(4, .int (0 : Int32)), (0, .ref (a o)), (1, .long l1), (3, .int l3)]) G dX4_grow_6 (Nat.le_of_ble_eq_true rfl) rfl rfl ?_
  refine w_iconst (pc2 := 9) G dX4_grow_8 k_iconst_0 rfl ?_
  refine w_istore (pc2 := 11) (lv2 := [(5, .int (0 : Int32)), (4, .int (0 : Int32)), (0, .ref (a o)), (1, .long l1), (3, .int l3)]) G dX4_grow_9 (Nat.le_of_ble_eq_true rfl) rfl rfl ?_
  obtain ⟨x2, h0, h⟩ := bs h
  have K_x2 : WW g E 6 0 0 (wX4 E a o x2.2.1 x2.2.2.1 x2.2.2.2.1 x2.2.2.2.2.1 c_root x2.2.2.2.2.2.1 x2.2.2.2.2.2.2.1 x1.1 x1.2 x2.2.2.2.2.2.2.2) [(0, .ref (a o)), (4, .int x2.1)] 155 [] := by
    clear h0
    refine w_aload_n (pc2 := 156) G 0 rfl dX4_grow_155 rfl rfl ?_
    refine w_bipush (pc2 := 158) G dX4_grow_156 k_bipush_m6 rfl ?_
    refine w_put (pc2 := 161) (ws2 := (wX4 E a o x2.2.1 x2.2.2.1 x2.2.2.2.1 x2.2.2.2.2.1 (-6 : Int32) x2.2.2.2.2.2.1 x2.2.2.2.2.2.2.1 x1.1 x1.2 x2.2.2.2.2.2.2.2)) G foX4_52 tokX4 0 rfl rfl rfl rfl (Nat.le_of_ble_eq_true rfl) rfl dX4_grow_158 rfl ?_
    obtain ⟨x3, h0, h⟩ := bs h
    have K_x3 : WW g E 6 0 0 (wX4 E a o x2.2.1 x2.2.2.1 x3.1 x3.2.1 x3.2.2.1 x3.2.2.2.1 x3.2.2.2.2 x1.1 x1.2 x2.2.2.2.2.2.2.2) [(0, .ref (a o))] 191 [] := by
      clear h0
      refine w_aload_n (pc2 := 192) G 0 rfl dX4_grow_191 rfl rfl ?_
      refine w_get (pc2 := 195) G foX4_52 0 rfl rfl dX4_grow_192 rfl ?_
      refine w_if_lt (tgt := 209) (pc2 := 198) G dX4_grow_195 (by decide) rfl (fun cc => ?_) (fun cc => ?_)
      · replace h := (if_pos cc).symm.trans h
        cases h
        exact w_vret G hQ rfl ⟨rfl, rfl⟩ dX4_grow_209
      · replace h := (if_neg cc).symm.trans h
        refine w_aload_n (pc2 := 199) G 0 rfl dX4_grow_198 rfl rfl ?_
        refine w_get (pc2 := 202) G foX4_18 0 rfl rfl dX4_grow_199 rfl ?_
        refine w_aload_n (pc2 := 203) G 0 rfl dX4_grow_202 rfl rfl ?_
        refine w_get (pc2 := 206) G foX4_52 0 rfl rfl dX4_grow_203 rfl ?_
        refine w_bipush (pc2 := 208) G dX4_grow_206 k_bipush_m6 rfl ?_
        obtain ⟨f4, H_f4, h⟩ := bs h
        refine w_iasto (pc2 := 209) (ws2 := (wX4 E a o x2.2.1 x2.2.2.1 f4 x3.2.1 x3.2.2.1 x3.2.2.2.1 x3.2.2.2.2 x1.1 x1.2 x2.2.2.2.2.2.2.2)) G 3 rfl H_f4 rfl dX4_grow_208 rfl ?_
        cases h
        exact w_vret G hQ rfl ⟨rfl, rfl⟩ dX4_grow_209
    exact w_lv [0, 1] rfl (lp_X4_grow_161 G 20000 _ _ _ _ _ _ _ _ _ _ h0 (w_lv [0] rfl K_x3))
  exact w_lv [2, 3, 1, 0] rfl (lp_X4_grow_11 G 20000 _ _ _ _ _ _ _ _ _ _ _ _ h0 (w_lv [0, 1] rfl K_x2))

set_option maxHeartbeats 4000000 in
set_option maxRecDepth 100000 in
theorem r_X7_count {l : Launch} {E : EV}  {l0 : Int64} {R : Int32} (h : f_X7_count l0 = some R) : Ret1 l E yX7_count cX7_count 2 (some .int) 1 [] [.long l0] (some (.int R)) [] := by
  refine Ret.intro (lv := [(0, .long l0)]) (by decide) (Nat.le_of_ble_eq_true rfl) rfl ?_
  intro g hgl G hQ
  subst hgl
  rw [f_X7_count] at h
  refine w_lload_n (pc2 := 1) G 0 rfl dX7_count_0 rfl rfl ?_
  obtain ⟨x1, H_x1, h⟩ := bs h
  refine w_cS0 (pc2 := 4) (As := [.long l0]) (rest := []) G koX7_261 (r_J13_bitCount_95d88 H_x1) (Nat.le_of_ble_eq_true rfl) rfl rfl (Nat.le_of_ble_eq_true rfl) ⟨Nat.zero_le _, Nat.zero_le _⟩ dX7_count_1 rfl rfl ?_
  cases h
  exact w_iret G hQ rfl ⟨rfl, rfl⟩ dX7_count_4

set_option maxHeartbeats 4000000 in
set_option maxRecDepth 100000 in
theorem r_X4_sizeBelow {l : Launch} {E : EV} {a : Nat → Nat} {o : Nat} {c_left c_right c_parent : Nat → Int32} {c_span : Nat → Int64} {c_root : Int32} {c_digest c_height c_priority : Nat → Int32} {c_pricedBy : Int32} {c_open : Nat → Int32} {l1 : Int32} {R : Int32} (h : f_X4_sizeBelow c_span l1 = some R) : Ret1 l E yX4_sizeBelow cX4_sizeBelow 2 (some .int) 2 (wX4 E a o c_left c_right c_parent c_span c_root c_digest c_height c_priority c_pricedBy c_open) [.ref (a o), .int l1] (some (.int R)) (wX4 E a o c_left c_right c_parent c_span c_root c_digest c_height c_priority c_pricedBy c_open) := by
  refine Ret.intro (lv := [(0, .ref (a o)), (1, .int l1)]) (by decide) (Nat.le_of_ble_eq_true rfl) rfl ?_
  intro g hgl G hQ
  subst hgl
  rw [f_X4_sizeBelow] at h
  refine w_aload_n (pc2 := 1) G 0 rfl dX4_sizeBelow_0 rfl rfl ?_
  refine w_iload_n (pc2 := 2) G 1 rfl dX4_sizeBelow_1 rfl rfl ?_
  obtain ⟨x1, H_x1, h⟩ := bs h
  refine w_cV0 (pc2 := 5) (ws2 := (wX4 E a o c_left c_right c_parent c_span c_root c_digest c_height c_priority c_pricedBy c_open)) (As := [.int l1]) (rest := []) G koX4_62 (r_X4_spanBelow H_x1) (Nat.le_of_ble_eq_true rfl) 4 rfl rfl rfl rfl (Nat.le_of_ble_eq_true rfl) ⟨Nat.zero_le _, Nat.zero_le _⟩ dX4_sizeBelow_2 rfl rfl ?_
  obtain ⟨x2, H_x2, h⟩ := bs h
  refine w_cS0N (pc2 := 8) (As := [.long x1]) (rest := []) G koX4_78 (r_X7_count H_x2) (Nat.le_of_ble_eq_true rfl) rfl rfl (Nat.le_of_ble_eq_true rfl) ⟨Nat.zero_le _, Nat.zero_le _⟩ dX4_sizeBelow_5 rfl rfl ?_
  cases h
  exact w_iret G hQ rfl ⟨rfl, rfl⟩ dX4_sizeBelow_8

set_option maxHeartbeats 4000000 in
set_option maxRecDepth 100000 in
theorem lp_X4_depth_4 {g : CX} {E : EV} {a : Nat → Nat} {o : Nat} {c_left c_right c_parent : Nat → Int32} {c_root : Int32} {c_digest c_height c_priority : Nat → Int32} {c_pricedBy : Int32} {c_open : Nat → Int32}  (G : GG g E RX4 cX4_depth 4 (some .int) 2 0 0) : ∀ (n : Nat) (c_span : Nat → Int64) (l1 : Int32) (l2 : Int32) (l3 : Int32) (R : Int32), L_X4_depth_4 n c_span l1 l2 l3 = some R → WW g E 4 0 0 (wX4 E a o c_left c_right c_parent c_span c_root c_digest c_height c_priority c_pricedBy c_open) [(2, .int R)] 37 [] → WW g E 4 0 0 (wX4 E a o c_left c_right c_parent c_span c_root c_digest c_height c_priority c_pricedBy c_open) [(0, .ref (a o)), (1, .int l1), (2, .int l2), (3, .int l3)] 4 [] := by
  intro n
  induction n with
  | zero => intro c_span l1 l2 l3 R h; exact no_some h
  | succ n ih =>
    intro c_span l1 l2 l3 R h K
    rw [L_X4_depth_4] at h
    refine w_iload_n (pc2 := 5) G 3 rfl dX4_depth_4 rfl rfl ?_
    refine w_bipush (pc2 := 7) G dX4_depth_5 k_bipush_50 rfl ?_
    refine w_icmp_ge (tgt := 37) (pc2 := 10) G dX4_depth_7 (by decide) rfl (fun cc => ?_) (fun cc => ?_)
    · replace h := (if_pos cc).symm.trans h
      cases h
      exact w_lv [2] rfl K
    · replace h := (if_neg cc).symm.trans h
      refine w_iload_n (pc2 := 11) G 3 rfl dX4_depth_10 rfl rfl ?_
      refine w_iload_n (pc2 := 12) G 1 rfl dX4_depth_11 rfl rfl ?_
      refine w_icmp_eq (tgt := 31) (pc2 := 15) G dX4_depth_12 (by decide) rfl (fun cc => ?_) (fun cc => ?_)
      · replace h := (if_pos cc).symm.trans h
        refine w_iinc (pc2 := 34) (lv2 := [(3, .int (l3 + (1 : Int32))), (0, .ref (a o)), (1, .int l1), (2, .int l2)]) G 3 rfl dX4_depth_31 k_iconst_1 (Nat.le_of_ble_eq_true rfl) rfl rfl ?_
        refine w_goto (tgt := 4) G dX4_depth_34 (by decide) ?_
        exact w_lv [1, 2, 3, 0] rfl (ih _ _ _ _ _ h K)
      · replace h := (if_neg cc).symm.trans h
        refine w_aload_n (pc2 := 16) G 0 rfl dX4_depth_15 rfl rfl ?_
        refine w_get (pc2 := 19) G foX4_21 0 rfl rfl dX4_depth_16 rfl ?_
        refine w_iload_n (pc2 := 20) G 3 rfl dX4_depth_19 rfl rfl ?_
        obtain ⟨v1, H_v1, h⟩ := bs h
        refine w_laldo (pc2 := 21) G 4 rfl H_v1 dX4_depth_20 rfl ?_
        refine w_iload_n (pc2 := 22) G 1 rfl dX4_depth_21 rfl rfl ?_
        obtain ⟨x2, H_x2, h⟩ := bs h
        refine w_cS0N (pc2 := 25) (As := [.long v1, .int l1]) (rest := []) G koX4_45 (r_X7_isIn H_x2) (Nat.le_of_ble_eq_true rfl) rfl rfl (Nat.le_of_ble_eq_true rfl) ⟨Nat.zero_le _, Nat.zero_le _⟩ dX4_depth_22 rfl rfl ?_
        refine w_if_eq (tgt := 31) (pc2 := 28) G dX4_depth_25 (by decide) rfl (fun cc => ?_) (fun cc => ?_)
        · replace h := (if_pos cc).symm.trans h
          refine w_iinc (pc2 := 34) (lv2 := [(3, .int (l3 + (1 : Int32))), (0, .ref (a o)), (1, .int l1), (2, .int l2)]) G 3 rfl dX4_depth_31 k_iconst_1 (Nat.le_of_ble_eq_true rfl) rfl rfl ?_
          refine w_goto (tgt := 4) G dX4_depth_34 (by decide) ?_
          exact w_lv [1, 2, 3, 0] rfl (ih _ _ _ _ _ h K)
        · replace h := (if_neg cc).symm.trans h
          refine w_iinc (pc2 := 31) (lv2 := [(2, .int (l2 + (1 : Int32))), (0, .ref (a o)), (1, .int l1), (3, .int l3)]) G 2 rfl dX4_depth_28 k_iconst_1 (Nat.le_of_ble_eq_true rfl) rfl rfl ?_
          refine w_iinc (pc2 := 34) (lv2 := [(3, .int (l3 + (1 : Int32))), (2, .int (l2 + (1 : Int32))), (0, .ref (a o)), (1, .int l1)]) G 3 rfl dX4_depth_31 k_iconst_1 (Nat.le_of_ble_eq_true rfl) rfl rfl ?_
          refine w_goto (tgt := 4) G dX4_depth_34 (by decide) ?_
          exact w_lv [2, 3, 1, 0] rfl (ih _ _ _ _ _ h K)
set_option maxHeartbeats 4000000 in
set_option maxRecDepth 100000 in
theorem r_X4_depth {l : Launch} {E : EV} {a : Nat → Nat} {o : Nat} {c_left c_right c_parent : Nat → Int32} {c_span : Nat → Int64} {c_root : Int32} {c_digest c_height c_priority : Nat → Int32} {c_pricedBy : Int32} {c_open : Nat → Int32} {l1 : Int32} {R : Int32} (h : f_X4_depth c_span l1 = some R) : Ret1 l E yX4_depth cX4_depth 4 (some .int) 2 (wX4 E a o c_left c_right c_parent c_span c_root c_digest c_height c_priority c_pricedBy c_open) [.ref (a o), .int l1] (some (.int R)) (wX4 E a o c_left c_right c_parent c_span c_root c_digest c_height c_priority c_pricedBy c_open) := by
  refine Ret.intro (lv := [(0, .ref (a o)), (1, .int l1)]) (by decide) (Nat.le_of_ble_eq_true rfl) rfl ?_
  intro g hgl G hQ
  subst hgl
  rw [f_X4_depth] at h
  refine w_iconst (pc2 := 1) G dX4_depth_0 k_iconst_0 rfl ?_
  refine w_istore_n (pc2 := 2) (lv2 := [(2, .int (0 : Int32)), (0, .ref (a o)), (1, .int l1)]) G dX4_depth_1 rfl (Nat.le_of_ble_eq_true rfl) rfl rfl ?_
  refine w_iconst (pc2 := 3) G dX4_depth_2 k_iconst_0 rfl ?_
  refine w_istore_n (pc2 := 4) (lv2 := [(3, .int (0 : Int32)), (2, .int (0 : Int32)), (0, .ref (a o)), (1, .int l1)]) G dX4_depth_3 rfl (Nat.le_of_ble_eq_true rfl) rfl rfl ?_
  obtain ⟨x1, h0, h⟩ := bs h
  have K_x1 : WW g E 4 0 0 (wX4 E a o c_left c_right c_parent c_span c_root c_digest c_height c_priority c_pricedBy c_open) [(2, .int x1)] 37 [] := by
    clear h0
    refine w_iload_n (pc2 := 38) G 0 rfl dX4_depth_37 rfl rfl ?_
    cases h
    exact w_iret G hQ rfl ⟨rfl, rfl⟩ dX4_depth_38
  exact w_lv [2, 3, 1, 0] rfl (lp_X4_depth_4 G 20000 _ _ _ _ _ h0 (w_lv [0] rfl K_x1))

set_option maxHeartbeats 4000000 in
set_option maxRecDepth 100000 in
theorem r_X6_copy {l : Launch} {E : EV} {a : Nat → Nat} {o o1 : Nat} {c_keys : Nat → Int64} {c_seed : Int32} {c_r1_keys : Nat → Int64} {c_r1_seed : Int32}  {R : (Nat → Int64) × Int32} (h : f_X6_copy c_keys c_seed c_r1_keys c_r1_seed = some R) : Ret1 l E yX6_copy cX6_copy 2 none 1 ((wX6 E a o c_keys c_seed) ++ (wX6 E a o1 c_r1_keys c_r1_seed)) [.ref (a o), .ref (a o1)] none ((wX6 E a o R.1 R.2) ++ (wX6 E a o1 c_r1_keys c_r1_seed)) := by
  refine Ret.intro (lv := [(0, .ref (a o)), (1, .ref (a o1))]) (by decide) (Nat.le_of_ble_eq_true rfl) rfl ?_
  intro g hgl G hQ
  subst hgl
  rw [f_X6_copy] at h
  refine w_aload_n (pc2 := 1) G 1 rfl dX6_copy_0 rfl rfl ?_
  refine w_get (pc2 := 4) G foX6_9 2 rfl rfl dX6_copy_1 rfl ?_
  refine w_iconst (pc2 := 5) G dX6_copy_4 k_iconst_0 rfl ?_
  refine w_aload_n (pc2 := 6) G 0 rfl dX6_copy_5 rfl rfl ?_
  refine w_get (pc2 := 9) G foX6_9 0 rfl rfl dX6_copy_6 rfl ?_
  refine w_iconst (pc2 := 10) G dX6_copy_9 k_iconst_0 rfl ?_
  refine w_iconst (pc2 := 11) G dX6_copy_10 k_iconst_4 rfl ?_
  refine w_copyl (pc2 := 14) (ws2 := ((wX6 E a o (va_cpy c_r1_keys c_keys 0 0 (4 : Int32).toNatClampNeg) c_seed) ++ (wX6 E a o1 c_r1_keys c_r1_seed))) G wd_70 wd_31 wd_32 wd_33 3 1 rfl rfl (by decide) (by decide) (Nat.le_of_ble_eq_true rfl) (by decide +kernel) rfl dX6_copy_11 rfl ?_
  refine w_aload_n (pc2 := 15) G 0 rfl dX6_copy_14 rfl rfl ?_
  refine w_aload_n (pc2 := 16) G 1 rfl dX6_copy_15 rfl rfl ?_
  refine w_get (pc2 := 19) G foX6_21 2 rfl rfl dX6_copy_16 rfl ?_
  refine w_put (pc2 := 22) (ws2 := ((wX6 E a o (va_cpy c_r1_keys c_keys 0 0 (4 : Int32).toNatClampNeg) c_r1_seed) ++ (wX6 E a o1 c_r1_keys c_r1_seed))) G foX6_21 tokX6 0 rfl rfl rfl rfl (Nat.le_of_ble_eq_true rfl) rfl dX6_copy_19 rfl ?_
  cases h
  exact w_vret G hQ rfl ⟨rfl, rfl⟩ dX6_copy_22

set_option maxHeartbeats 4000000 in
set_option maxRecDepth 100000 in
theorem r_X6_whyNotOne {l : Launch} {E : EV}  {l0 : Int32} {l1 : Int64} {l3 : Int32} {R : Int32} (h : f_X6_whyNotOne l0 l1 l3 = some R) : Ret1 l E yX6_whyNotOne cX6_whyNotOne 4 (some .int) 2 [] [.int l0, .long l1, .int l3] (some (.int R)) [] := by
  refine Ret.intro (lv := [(0, .int l0), (1, .long l1), (3, .int l3)]) (by decide) (Nat.le_of_ble_eq_true rfl) rfl ?_
  intro g hgl G hQ
  subst hgl
  rw [f_X6_whyNotOne] at h
  refine w_lload_n (pc2 := 1) G 1 rfl dX6_whyNotOne_0 rfl rfl ?_
  refine w_iload_n (pc2 := 2) G 2 rfl dX6_whyNotOne_1 rfl rfl ?_
  obtain ⟨x1, H_x1, h⟩ := bs h
  refine w_cS0N (pc2 := 5) (As := [.long l1, .int l3]) (rest := []) G koX6_51 (r_X7_isIn H_x1) (Nat.le_of_ble_eq_true rfl) rfl rfl (Nat.le_of_ble_eq_true rfl) ⟨Nat.zero_le _, Nat.zero_le _⟩ dX6_whyNotOne_2 rfl rfl ?_
  refine w_iload_n (pc2 := 6) G 0 rfl dX6_whyNotOne_5 rfl rfl ?_
  refine w_icmp_ne (tgt := 11) (pc2 := 9) G dX6_whyNotOne_6 (by decide) rfl (fun cc => ?_) (fun cc => ?_)
  · replace h := (if_neg cc).symm.trans h
    refine w_iload_n (pc2 := 12) G 0 rfl dX6_whyNotOne_11 rfl rfl ?_
    refine w_if_eq (tgt := 28) (pc2 := 15) G dX6_whyNotOne_12 (by decide) rfl (fun cc => ?_) (fun cc => ?_)
    · replace h := (if_pos cc).symm.trans h
      refine w_iconst (pc2 := 29) G dX6_whyNotOne_28 k_iconst_0 rfl ?_
      cases h
      exact w_iret G hQ rfl ⟨rfl, rfl⟩ dX6_whyNotOne_29
    · replace h := (if_neg cc).symm.trans h
      refine w_lload_n (pc2 := 16) G 1 rfl dX6_whyNotOne_15 rfl rfl ?_
      obtain ⟨x2, H_x2, h⟩ := bs h
      refine w_cS0N (pc2 := 19) (As := [.long l1]) (rest := []) G koX6_25 (r_X7_count H_x2) (Nat.le_of_ble_eq_true rfl) rfl rfl (Nat.le_of_ble_eq_true rfl) ⟨Nat.zero_le _, Nat.zero_le _⟩ dX6_whyNotOne_16 rfl rfl ?_
      refine w_bipush (pc2 := 21) G dX6_whyNotOne_19 k_bipush_40 rfl ?_
      refine w_icmp_lt (tgt := 28) (pc2 := 24) G dX6_whyNotOne_21 (by decide) rfl (fun cc => ?_) (fun cc => ?_)
      · replace h := (if_pos cc).symm.trans h
        refine w_iconst (pc2 := 29) G dX6_whyNotOne_28 k_iconst_0 rfl ?_
        cases h
        exact w_iret G hQ rfl ⟨rfl, rfl⟩ dX6_whyNotOne_29
      · replace h := (if_neg cc).symm.trans h
        refine w_iconst (pc2 := 25) G dX6_whyNotOne_24 k_iconst_3 rfl ?_
        refine w_goto (tgt := 29) G dX6_whyNotOne_25 (by decide) ?_
        cases h
        exact w_iret G hQ rfl ⟨rfl, rfl⟩ dX6_whyNotOne_29
  · replace h := (if_pos cc).symm.trans h
    refine w_iconst (pc2 := 10) G dX6_whyNotOne_9 k_iconst_2 rfl ?_
    cases h
    exact w_iret G hQ rfl ⟨rfl, rfl⟩ dX6_whyNotOne_10

set_option maxHeartbeats 4000000 in
set_option maxRecDepth 100000 in
theorem r_X6_whyNotTwo {l : Launch} {E : EV}  {l0 : Int32} {l1 : Int64} {l3 : Int64} {R : Int32} (h : f_X6_whyNotTwo l0 l1 l3 = some R) : Ret1 l E yX6_whyNotTwo cX6_whyNotTwo 5 (some .int) 2 [] [.int l0, .long l1, .long l3] (some (.int R)) [] := by
  refine Ret.intro (lv := [(0, .int l0), (1, .long l1), (3, .long l3)]) (by decide) (Nat.le_of_ble_eq_true rfl) rfl ?_
  intro g hgl G hQ
  subst hgl
  rw [f_X6_whyNotTwo] at h
  refine w_iload_n (pc2 := 1) G 0 rfl dX6_whyNotTwo_0 rfl rfl ?_
  refine w_bipush (pc2 := 3) G dX6_whyNotTwo_1 k_bipush_38 rfl ?_
  refine w_icmp_eq (tgt := 12) (pc2 := 6) G dX6_whyNotTwo_3 (by decide) rfl (fun cc => ?_) (fun cc => ?_)
  · replace h := (if_pos cc).symm.trans h
    refine w_lload_n (pc2 := 13) G 1 rfl dX6_whyNotTwo_12 rfl rfl ?_
    refine w_lload_n (pc2 := 14) G 2 rfl dX6_whyNotTwo_13 rfl rfl ?_
    refine w_lor (pc2 := 15) G dX6_whyNotTwo_14 rfl ?_
    obtain ⟨x1, H_x1, h⟩ := bs h
    refine w_cS0N (pc2 := 18) (As := [.long (l1 ||| l3)]) (rest := []) G koX6_25 (r_X7_count H_x1) (Nat.le_of_ble_eq_true rfl) rfl rfl (Nat.le_of_ble_eq_true rfl) ⟨Nat.zero_le _, Nat.zero_le _⟩ dX6_whyNotTwo_15 rfl rfl ?_
    refine w_bipush (pc2 := 20) G dX6_whyNotTwo_18 k_bipush_40 rfl ?_
    refine w_icmp_le (tgt := 25) (pc2 := 23) G dX6_whyNotTwo_20 (by decide) rfl (fun cc => ?_) (fun cc => ?_)
    · replace h := (if_pos cc).symm.trans h
      refine w_iload_n (pc2 := 26) G 0 rfl dX6_whyNotTwo_25 rfl rfl ?_
      refine w_bipush (pc2 := 28) G dX6_whyNotTwo_26 k_bipush_47 rfl ?_
      refine w_icmp_ne (tgt := 39) (pc2 := 31) G dX6_whyNotTwo_28 (by decide) rfl (fun cc => ?_) (fun cc => ?_)
      · replace h := (if_neg cc).symm.trans h
        refine w_iload_n (pc2 := 40) G 0 rfl dX6_whyNotTwo_39 rfl rfl ?_
        refine w_bipush (pc2 := 42) G dX6_whyNotTwo_40 k_bipush_38 rfl ?_
        refine w_icmp_ne (tgt := 62) (pc2 := 45) G dX6_whyNotTwo_42 (by decide) rfl (fun cc => ?_) (fun cc => ?_)
        · replace h := (if_neg cc).symm.trans h
          refine w_iconst (pc2 := 63) G dX6_whyNotTwo_62 k_iconst_0 rfl ?_
          cases h
          exact w_iret G hQ rfl ⟨rfl, rfl⟩ dX6_whyNotTwo_63
        · replace h := (if_pos cc).symm.trans h
          refine w_lload_n (pc2 := 46) G 2 rfl dX6_whyNotTwo_45 rfl rfl ?_
          refine w_lconst (pc2 := 47) G dX6_whyNotTwo_46 k_lconst_0 rfl ?_
          refine w_lcmp (pc2 := 48) G dX6_whyNotTwo_47 rfl ?_
          refine w_if_eq (tgt := 62) (pc2 := 51) G dX6_whyNotTwo_48 (by decide) rfl (fun cc => ?_) (fun cc => ?_)
          · replace h := (if_pos cc).symm.trans h
            refine w_iconst (pc2 := 63) G dX6_whyNotTwo_62 k_iconst_0 rfl ?_
            cases h
            exact w_iret G hQ rfl ⟨rfl, rfl⟩ dX6_whyNotTwo_63
          · replace h := (if_neg cc).symm.trans h
            refine w_lload_n (pc2 := 52) G 1 rfl dX6_whyNotTwo_51 rfl rfl ?_
            refine w_lload_n (pc2 := 53) G 2 rfl dX6_whyNotTwo_52 rfl rfl ?_
            refine w_lload_n (pc2 := 54) G 2 rfl dX6_whyNotTwo_53 rfl rfl ?_
            refine w_lneg (pc2 := 55) G dX6_whyNotTwo_54 rfl ?_
            refine w_land (pc2 := 56) G dX6_whyNotTwo_55 rfl ?_
            refine w_lcmp (pc2 := 57) G dX6_whyNotTwo_56 rfl ?_
            refine w_if_lt (tgt := 62) (pc2 := 60) G dX6_whyNotTwo_57 (by decide) rfl (fun cc => ?_) (fun cc => ?_)
            · replace h := (if_pos cc).symm.trans h
              refine w_iconst (pc2 := 63) G dX6_whyNotTwo_62 k_iconst_0 rfl ?_
              cases h
              exact w_iret G hQ rfl ⟨rfl, rfl⟩ dX6_whyNotTwo_63
            · replace h := (if_neg cc).symm.trans h
              refine w_iconst (pc2 := 61) G dX6_whyNotTwo_60 k_iconst_5 rfl ?_
              cases h
              exact w_iret G hQ rfl ⟨rfl, rfl⟩ dX6_whyNotTwo_61
      · replace h := (if_pos cc).symm.trans h
        refine w_lload_n (pc2 := 32) G 2 rfl dX6_whyNotTwo_31 rfl rfl ?_
        refine w_lconst (pc2 := 33) G dX6_whyNotTwo_32 k_lconst_0 rfl ?_
        refine w_lcmp (pc2 := 34) G dX6_whyNotTwo_33 rfl ?_
        refine w_if_eq (tgt := 39) (pc2 := 37) G dX6_whyNotTwo_34 (by decide) rfl (fun cc => ?_) (fun cc => ?_)
        · replace h := (if_pos cc).symm.trans h
          refine w_iload_n (pc2 := 40) G 0 rfl dX6_whyNotTwo_39 rfl rfl ?_
          refine w_bipush (pc2 := 42) G dX6_whyNotTwo_40 k_bipush_38 rfl ?_
          refine w_icmp_ne (tgt := 62) (pc2 := 45) G dX6_whyNotTwo_42 (by decide) rfl (fun cc => ?_) (fun cc => ?_)
          · replace h := (if_neg cc).symm.trans h
            refine w_iconst (pc2 := 63) G dX6_whyNotTwo_62 k_iconst_0 rfl ?_
            cases h
            exact w_iret G hQ rfl ⟨rfl, rfl⟩ dX6_whyNotTwo_63
          · replace h := (if_pos cc).symm.trans h
            refine w_lload_n (pc2 := 46) G 2 rfl dX6_whyNotTwo_45 rfl rfl ?_
            refine w_lconst (pc2 := 47) G dX6_whyNotTwo_46 k_lconst_0 rfl ?_
            refine w_lcmp (pc2 := 48) G dX6_whyNotTwo_47 rfl ?_
            refine w_if_eq (tgt := 62) (pc2 := 51) G dX6_whyNotTwo_48 (by decide) rfl (fun cc => ?_) (fun cc => ?_)
            · replace h := (if_pos cc).symm.trans h
              refine w_iconst (pc2 := 63) G dX6_whyNotTwo_62 k_iconst_0 rfl ?_
              cases h
              exact w_iret G hQ rfl ⟨rfl, rfl⟩ dX6_whyNotTwo_63
            · replace h := (if_neg cc).symm.trans h
              refine w_lload_n (pc2 := 52) G 1 rfl dX6_whyNotTwo_51 rfl rfl ?_
              refine w_lload_n (pc2 := 53) G 2 rfl dX6_whyNotTwo_52 rfl rfl ?_
              refine w_lload_n (pc2 := 54) G 2 rfl dX6_whyNotTwo_53 rfl rfl ?_
              refine w_lneg (pc2 := 55) G dX6_whyNotTwo_54 rfl ?_
              refine w_land (pc2 := 56) G dX6_whyNotTwo_55 rfl ?_
              refine w_lcmp (pc2 := 57) G dX6_whyNotTwo_56 rfl ?_
              refine w_if_lt (tgt := 62) (pc2 := 60) G dX6_whyNotTwo_57 (by decide) rfl (fun cc => ?_) (fun cc => ?_)
              · replace h := (if_pos cc).symm.trans h
                refine w_iconst (pc2 := 63) G dX6_whyNotTwo_62 k_iconst_0 rfl ?_
                cases h
                exact w_iret G hQ rfl ⟨rfl, rfl⟩ dX6_whyNotTwo_63
              · replace h := (if_neg cc).symm.trans h
                refine w_iconst (pc2 := 61) G dX6_whyNotTwo_60 k_iconst_5 rfl ?_
                cases h
                exact w_iret G hQ rfl ⟨rfl, rfl⟩ dX6_whyNotTwo_61
        · replace h := (if_neg cc).symm.trans h
          refine w_iconst (pc2 := 38) G dX6_whyNotTwo_37 k_iconst_4 rfl ?_
          cases h
          exact w_iret G hQ rfl ⟨rfl, rfl⟩ dX6_whyNotTwo_38
    · replace h := (if_neg cc).symm.trans h
      refine w_iconst (pc2 := 24) G dX6_whyNotTwo_23 k_iconst_3 rfl ?_
      cases h
      exact w_iret G hQ rfl ⟨rfl, rfl⟩ dX6_whyNotTwo_24
  · replace h := (if_neg cc).symm.trans h
    refine w_iload_n (pc2 := 7) G 0 rfl dX6_whyNotTwo_6 rfl rfl ?_
    refine w_bipush (pc2 := 9) G dX6_whyNotTwo_7 k_bipush_124 rfl ?_
    refine w_icmp_ne (tgt := 25) (pc2 := 12) G dX6_whyNotTwo_9 (by decide) rfl (fun cc => ?_) (fun cc => ?_)
    · replace h := (if_neg cc).symm.trans h
      refine w_iload_n (pc2 := 26) G 0 rfl dX6_whyNotTwo_25 rfl rfl ?_
      refine w_bipush (pc2 := 28) G dX6_whyNotTwo_26 k_bipush_47 rfl ?_
      refine w_icmp_ne (tgt := 39) (pc2 := 31) G dX6_whyNotTwo_28 (by decide) rfl (fun cc => ?_) (fun cc => ?_)
      · replace h := (if_neg cc).symm.trans h
        refine w_iload_n (pc2 := 40) G 0 rfl dX6_whyNotTwo_39 rfl rfl ?_
        refine w_bipush (pc2 := 42) G dX6_whyNotTwo_40 k_bipush_38 rfl ?_
        refine w_icmp_ne (tgt := 62) (pc2 := 45) G dX6_whyNotTwo_42 (by decide) rfl (fun cc => ?_) (fun cc => ?_)
        · replace h := (if_neg cc).symm.trans h
          refine w_iconst (pc2 := 63) G dX6_whyNotTwo_62 k_iconst_0 rfl ?_
          cases h
          exact w_iret G hQ rfl ⟨rfl, rfl⟩ dX6_whyNotTwo_63
        · replace h := (if_pos cc).symm.trans h
          refine w_lload_n (pc2 := 46) G 2 rfl dX6_whyNotTwo_45 rfl rfl ?_
          refine w_lconst (pc2 := 47) G dX6_whyNotTwo_46 k_lconst_0 rfl ?_
          refine w_lcmp (pc2 := 48) G dX6_whyNotTwo_47 rfl ?_
          refine w_if_eq (tgt := 62) (pc2 := 51) G dX6_whyNotTwo_48 (by decide) rfl (fun cc => ?_) (fun cc => ?_)
          · replace h := (if_pos cc).symm.trans h
            refine w_iconst (pc2 := 63) G dX6_whyNotTwo_62 k_iconst_0 rfl ?_
            cases h
            exact w_iret G hQ rfl ⟨rfl, rfl⟩ dX6_whyNotTwo_63
          · replace h := (if_neg cc).symm.trans h
            refine w_lload_n (pc2 := 52) G 1 rfl dX6_whyNotTwo_51 rfl rfl ?_
            refine w_lload_n (pc2 := 53) G 2 rfl dX6_whyNotTwo_52 rfl rfl ?_
            refine w_lload_n (pc2 := 54) G 2 rfl dX6_whyNotTwo_53 rfl rfl ?_
            refine w_lneg (pc2 := 55) G dX6_whyNotTwo_54 rfl ?_
            refine w_land (pc2 := 56) G dX6_whyNotTwo_55 rfl ?_
            refine w_lcmp (pc2 := 57) G dX6_whyNotTwo_56 rfl ?_
            refine w_if_lt (tgt := 62) (pc2 := 60) G dX6_whyNotTwo_57 (by decide) rfl (fun cc => ?_) (fun cc => ?_)
            · replace h := (if_pos cc).symm.trans h
              refine w_iconst (pc2 := 63) G dX6_whyNotTwo_62 k_iconst_0 rfl ?_
              cases h
              exact w_iret G hQ rfl ⟨rfl, rfl⟩ dX6_whyNotTwo_63
            · replace h := (if_neg cc).symm.trans h
              refine w_iconst (pc2 := 61) G dX6_whyNotTwo_60 k_iconst_5 rfl ?_
              cases h
              exact w_iret G hQ rfl ⟨rfl, rfl⟩ dX6_whyNotTwo_61
      · replace h := (if_pos cc).symm.trans h
        refine w_lload_n (pc2 := 32) G 2 rfl dX6_whyNotTwo_31 rfl rfl ?_
        refine w_lconst (pc2 := 33) G dX6_whyNotTwo_32 k_lconst_0 rfl ?_
        refine w_lcmp (pc2 := 34) G dX6_whyNotTwo_33 rfl ?_
        refine w_if_eq (tgt := 39) (pc2 := 37) G dX6_whyNotTwo_34 (by decide) rfl (fun cc => ?_) (fun cc => ?_)
        · replace h := (if_pos cc).symm.trans h
          refine w_iload_n (pc2 := 40) G 0 rfl dX6_whyNotTwo_39 rfl rfl ?_
          refine w_bipush (pc2 := 42) G dX6_whyNotTwo_40 k_bipush_38 rfl ?_
          refine w_icmp_ne (tgt := 62) (pc2 := 45) G dX6_whyNotTwo_42 (by decide) rfl (fun cc => ?_) (fun cc => ?_)
          · replace h := (if_neg cc).symm.trans h
            refine w_iconst (pc2 := 63) G dX6_whyNotTwo_62 k_iconst_0 rfl ?_
            cases h
            exact w_iret G hQ rfl ⟨rfl, rfl⟩ dX6_whyNotTwo_63
          · replace h := (if_pos cc).symm.trans h
            refine w_lload_n (pc2 := 46) G 2 rfl dX6_whyNotTwo_45 rfl rfl ?_
            refine w_lconst (pc2 := 47) G dX6_whyNotTwo_46 k_lconst_0 rfl ?_
            refine w_lcmp (pc2 := 48) G dX6_whyNotTwo_47 rfl ?_
            refine w_if_eq (tgt := 62) (pc2 := 51) G dX6_whyNotTwo_48 (by decide) rfl (fun cc => ?_) (fun cc => ?_)
            · replace h := (if_pos cc).symm.trans h
              refine w_iconst (pc2 := 63) G dX6_whyNotTwo_62 k_iconst_0 rfl ?_
              cases h
              exact w_iret G hQ rfl ⟨rfl, rfl⟩ dX6_whyNotTwo_63
            · replace h := (if_neg cc).symm.trans h
              refine w_lload_n (pc2 := 52) G 1 rfl dX6_whyNotTwo_51 rfl rfl ?_
              refine w_lload_n (pc2 := 53) G 2 rfl dX6_whyNotTwo_52 rfl rfl ?_
              refine w_lload_n (pc2 := 54) G 2 rfl dX6_whyNotTwo_53 rfl rfl ?_
              refine w_lneg (pc2 := 55) G dX6_whyNotTwo_54 rfl ?_
              refine w_land (pc2 := 56) G dX6_whyNotTwo_55 rfl ?_
              refine w_lcmp (pc2 := 57) G dX6_whyNotTwo_56 rfl ?_
              refine w_if_lt (tgt := 62) (pc2 := 60) G dX6_whyNotTwo_57 (by decide) rfl (fun cc => ?_) (fun cc => ?_)
              · replace h := (if_pos cc).symm.trans h
                refine w_iconst (pc2 := 63) G dX6_whyNotTwo_62 k_iconst_0 rfl ?_
                cases h
                exact w_iret G hQ rfl ⟨rfl, rfl⟩ dX6_whyNotTwo_63
              · replace h := (if_neg cc).symm.trans h
                refine w_iconst (pc2 := 61) G dX6_whyNotTwo_60 k_iconst_5 rfl ?_
                cases h
                exact w_iret G hQ rfl ⟨rfl, rfl⟩ dX6_whyNotTwo_61
        · replace h := (if_neg cc).symm.trans h
          refine w_iconst (pc2 := 38) G dX6_whyNotTwo_37 k_iconst_4 rfl ?_
          cases h
          exact w_iret G hQ rfl ⟨rfl, rfl⟩ dX6_whyNotTwo_38
    · replace h := (if_pos cc).symm.trans h
      refine w_lload_n (pc2 := 13) G 1 rfl dX6_whyNotTwo_12 rfl rfl ?_
      refine w_lload_n (pc2 := 14) G 2 rfl dX6_whyNotTwo_13 rfl rfl ?_
      refine w_lor (pc2 := 15) G dX6_whyNotTwo_14 rfl ?_
      obtain ⟨x2, H_x2, h⟩ := bs h
      refine w_cS0N (pc2 := 18) (As := [.long (l1 ||| l3)]) (rest := []) G koX6_25 (r_X7_count H_x2) (Nat.le_of_ble_eq_true rfl) rfl rfl (Nat.le_of_ble_eq_true rfl) ⟨Nat.zero_le _, Nat.zero_le _⟩ dX6_whyNotTwo_15 rfl rfl ?_
      refine w_bipush (pc2 := 20) G dX6_whyNotTwo_18 k_bipush_40 rfl ?_
      refine w_icmp_le (tgt := 25) (pc2 := 23) G dX6_whyNotTwo_20 (by decide) rfl (fun cc => ?_) (fun cc => ?_)
      · replace h := (if_pos cc).symm.trans h
        refine w_iload_n (pc2 := 26) G 0 rfl dX6_whyNotTwo_25 rfl rfl ?_
        refine w_bipush (pc2 := 28) G dX6_whyNotTwo_26 k_bipush_47 rfl ?_
        refine w_icmp_ne (tgt := 39) (pc2 := 31) G dX6_whyNotTwo_28 (by decide) rfl (fun cc => ?_) (fun cc => ?_)
        · replace h := (if_neg cc).symm.trans h
          refine w_iload_n (pc2 := 40) G 0 rfl dX6_whyNotTwo_39 rfl rfl ?_
          refine w_bipush (pc2 := 42) G dX6_whyNotTwo_40 k_bipush_38 rfl ?_
          refine w_icmp_ne (tgt := 62) (pc2 := 45) G dX6_whyNotTwo_42 (by decide) rfl (fun cc => ?_) (fun cc => ?_)
          · replace h := (if_neg cc).symm.trans h
            refine w_iconst (pc2 := 63) G dX6_whyNotTwo_62 k_iconst_0 rfl ?_
            cases h
            exact w_iret G hQ rfl ⟨rfl, rfl⟩ dX6_whyNotTwo_63
          · replace h := (if_pos cc).symm.trans h
            refine w_lload_n (pc2 := 46) G 2 rfl dX6_whyNotTwo_45 rfl rfl ?_
            refine w_lconst (pc2 := 47) G dX6_whyNotTwo_46 k_lconst_0 rfl ?_
            refine w_lcmp (pc2 := 48) G dX6_whyNotTwo_47 rfl ?_
            refine w_if_eq (tgt := 62) (pc2 := 51) G dX6_whyNotTwo_48 (by decide) rfl (fun cc => ?_) (fun cc => ?_)
            · replace h := (if_pos cc).symm.trans h
              refine w_iconst (pc2 := 63) G dX6_whyNotTwo_62 k_iconst_0 rfl ?_
              cases h
              exact w_iret G hQ rfl ⟨rfl, rfl⟩ dX6_whyNotTwo_63
            · replace h := (if_neg cc).symm.trans h
              refine w_lload_n (pc2 := 52) G 1 rfl dX6_whyNotTwo_51 rfl rfl ?_
              refine w_lload_n (pc2 := 53) G 2 rfl dX6_whyNotTwo_52 rfl rfl ?_
              refine w_lload_n (pc2 := 54) G 2 rfl dX6_whyNotTwo_53 rfl rfl ?_
              refine w_lneg (pc2 := 55) G dX6_whyNotTwo_54 rfl ?_
              refine w_land (pc2 := 56) G dX6_whyNotTwo_55 rfl ?_
              refine w_lcmp (pc2 := 57) G dX6_whyNotTwo_56 rfl ?_
              refine w_if_lt (tgt := 62) (pc2 := 60) G dX6_whyNotTwo_57 (by decide) rfl (fun cc => ?_) (fun cc => ?_)
              · replace h := (if_pos cc).symm.trans h
                refine w_iconst (pc2 := 63) G dX6_whyNotTwo_62 k_iconst_0 rfl ?_
                cases h
                exact w_iret G hQ rfl ⟨rfl, rfl⟩ dX6_whyNotTwo_63
              · replace h := (if_neg cc).symm.trans h
                refine w_iconst (pc2 := 61) G dX6_whyNotTwo_60 k_iconst_5 rfl ?_
                cases h
                exact w_iret G hQ rfl ⟨rfl, rfl⟩ dX6_whyNotTwo_61
        · replace h := (if_pos cc).symm.trans h
          refine w_lload_n (pc2 := 32) G 2 rfl dX6_whyNotTwo_31 rfl rfl ?_
          refine w_lconst (pc2 := 33) G dX6_whyNotTwo_32 k_lconst_0 rfl ?_
          refine w_lcmp (pc2 := 34) G dX6_whyNotTwo_33 rfl ?_
          refine w_if_eq (tgt := 39) (pc2 := 37) G dX6_whyNotTwo_34 (by decide) rfl (fun cc => ?_) (fun cc => ?_)
          · replace h := (if_pos cc).symm.trans h
            refine w_iload_n (pc2 := 40) G 0 rfl dX6_whyNotTwo_39 rfl rfl ?_
            refine w_bipush (pc2 := 42) G dX6_whyNotTwo_40 k_bipush_38 rfl ?_
            refine w_icmp_ne (tgt := 62) (pc2 := 45) G dX6_whyNotTwo_42 (by decide) rfl (fun cc => ?_) (fun cc => ?_)
            · replace h := (if_neg cc).symm.trans h
              refine w_iconst (pc2 := 63) G dX6_whyNotTwo_62 k_iconst_0 rfl ?_
              cases h
              exact w_iret G hQ rfl ⟨rfl, rfl⟩ dX6_whyNotTwo_63
            · replace h := (if_pos cc).symm.trans h
              refine w_lload_n (pc2 := 46) G 2 rfl dX6_whyNotTwo_45 rfl rfl ?_
              refine w_lconst (pc2 := 47) G dX6_whyNotTwo_46 k_lconst_0 rfl ?_
              refine w_lcmp (pc2 := 48) G dX6_whyNotTwo_47 rfl ?_
              refine w_if_eq (tgt := 62) (pc2 := 51) G dX6_whyNotTwo_48 (by decide) rfl (fun cc => ?_) (fun cc => ?_)
              · replace h := (if_pos cc).symm.trans h
                refine w_iconst (pc2 := 63) G dX6_whyNotTwo_62 k_iconst_0 rfl ?_
                cases h
                exact w_iret G hQ rfl ⟨rfl, rfl⟩ dX6_whyNotTwo_63
              · replace h := (if_neg cc).symm.trans h
                refine w_lload_n (pc2 := 52) G 1 rfl dX6_whyNotTwo_51 rfl rfl ?_
                refine w_lload_n (pc2 := 53) G 2 rfl dX6_whyNotTwo_52 rfl rfl ?_
                refine w_lload_n (pc2 := 54) G 2 rfl dX6_whyNotTwo_53 rfl rfl ?_
                refine w_lneg (pc2 := 55) G dX6_whyNotTwo_54 rfl ?_
                refine w_land (pc2 := 56) G dX6_whyNotTwo_55 rfl ?_
                refine w_lcmp (pc2 := 57) G dX6_whyNotTwo_56 rfl ?_
                refine w_if_lt (tgt := 62) (pc2 := 60) G dX6_whyNotTwo_57 (by decide) rfl (fun cc => ?_) (fun cc => ?_)
                · replace h := (if_pos cc).symm.trans h
                  refine w_iconst (pc2 := 63) G dX6_whyNotTwo_62 k_iconst_0 rfl ?_
                  cases h
                  exact w_iret G hQ rfl ⟨rfl, rfl⟩ dX6_whyNotTwo_63
                · replace h := (if_neg cc).symm.trans h
                  refine w_iconst (pc2 := 61) G dX6_whyNotTwo_60 k_iconst_5 rfl ?_
                  cases h
                  exact w_iret G hQ rfl ⟨rfl, rfl⟩ dX6_whyNotTwo_61
          · replace h := (if_neg cc).symm.trans h
            refine w_iconst (pc2 := 38) G dX6_whyNotTwo_37 k_iconst_4 rfl ?_
            cases h
            exact w_iret G hQ rfl ⟨rfl, rfl⟩ dX6_whyNotTwo_38
      · replace h := (if_neg cc).symm.trans h
        refine w_iconst (pc2 := 24) G dX6_whyNotTwo_23 k_iconst_3 rfl ?_
        cases h
        exact w_iret G hQ rfl ⟨rfl, rfl⟩ dX6_whyNotTwo_24

set_option maxHeartbeats 4000000 in
set_option maxRecDepth 100000 in
theorem r_X6_whyNot {l : Launch} {E : EV} {a : Nat → Nat} {o o1 : Nat} {c_keys : Nat → Int64} {c_seed c_r1_kind c_r1_set c_r1_key c_r1_other : Int32}  {R : Int32} (h : f_X6_whyNot c_keys c_seed c_r1_kind c_r1_set c_r1_key c_r1_other = some R) : Ret1 l E yX6_whyNot cX6_whyNot 2 (some .int) 3 ((wX6 E a o c_keys c_seed) ++ (wX0 E a o1 c_r1_kind c_r1_set c_r1_key c_r1_other)) [.ref (a o), .ref (a o1)] (some (.int R)) ((wX6 E a o c_keys c_seed) ++ (wX0 E a o1 c_r1_kind c_r1_set c_r1_key c_r1_other)) := by
  refine Ret.intro (lv := [(0, .ref (a o)), (1, .ref (a o1))]) (by decide) (Nat.le_of_ble_eq_true rfl) rfl ?_
  intro g hgl G hQ
  subst hgl
  rw [f_X6_whyNot] at h
  refine w_aload_n (pc2 := 1) G 1 rfl dX6_whyNot_0 rfl rfl ?_
  refine w_get (pc2 := 4) G foX6_29 2 rfl rfl dX6_whyNot_1 rfl ?_
  refine w_bipush (pc2 := 6) G dX6_whyNot_4 k_bipush_33 rfl ?_
  refine w_icmp_ne (tgt := 26) (pc2 := 9) G dX6_whyNot_6 (by decide) rfl (fun cc => ?_) (fun cc => ?_)
  · replace h := (if_neg cc).symm.trans h
    refine w_aload_n (pc2 := 27) G 1 rfl dX6_whyNot_26 rfl rfl ?_
    refine w_get (pc2 := 30) G foX6_29 2 rfl rfl dX6_whyNot_27 rfl ?_
    refine w_bipush (pc2 := 32) G dX6_whyNot_30 k_bipush_43 rfl ?_
    refine w_icmp_eq (tgt := 44) (pc2 := 35) G dX6_whyNot_32 (by decide) rfl (fun cc => ?_) (fun cc => ?_)
    · replace h := (if_pos cc).symm.trans h
      refine w_aload_n (pc2 := 45) G 1 rfl dX6_whyNot_44 rfl rfl ?_
      refine w_get (pc2 := 48) G foX6_29 2 rfl rfl dX6_whyNot_45 rfl ?_
      refine w_bipush (pc2 := 50) G dX6_whyNot_48 k_bipush_43 rfl ?_
      refine w_icmp_ne (tgt := 57) (pc2 := 53) G dX6_whyNot_50 (by decide) rfl (fun cc => ?_) (fun cc => ?_)
      · replace h := (if_neg cc).symm.trans h
        refine w_iconst (pc2 := 58) G dX6_whyNot_57 k_iconst_0 rfl ?_
        refine w_aload_n (pc2 := 59) G 0 rfl dX6_whyNot_58 rfl rfl ?_
        refine w_get (pc2 := 62) G foX6_9 0 rfl rfl dX6_whyNot_59 rfl ?_
        refine w_aload_n (pc2 := 63) G 1 rfl dX6_whyNot_62 rfl rfl ?_
        refine w_get (pc2 := 66) G foX6_34 2 rfl rfl dX6_whyNot_63 rfl ?_
        obtain ⟨v1, H_v1, h⟩ := bs h
        refine w_laldo (pc2 := 67) G 1 rfl H_v1 dX6_whyNot_66 rfl ?_
        refine w_aload_n (pc2 := 68) G 1 rfl dX6_whyNot_67 rfl rfl ?_
        refine w_get (pc2 := 71) G foX6_37 2 rfl rfl dX6_whyNot_68 rfl ?_
        obtain ⟨x2, H_x2, h⟩ := bs h
        refine w_cS0 (pc2 := 74) (As := [.int (0 : Int32), .long v1, .int c_r1_key]) (rest := []) G koX6_40 (r_X6_whyNotOne H_x2) (Nat.le_of_ble_eq_true rfl) rfl rfl (Nat.le_of_ble_eq_true rfl) ⟨Nat.zero_le _, Nat.zero_le _⟩ dX6_whyNot_71 rfl rfl ?_
        cases h
        exact w_iret G hQ rfl ⟨rfl, rfl⟩ dX6_whyNot_74
      · replace h := (if_pos cc).symm.trans h
        refine w_iconst (pc2 := 54) G dX6_whyNot_53 k_iconst_1 rfl ?_
        refine w_goto (tgt := 58) G dX6_whyNot_54 (by decide) ?_
        refine w_aload_n (pc2 := 59) G 0 rfl dX6_whyNot_58 rfl rfl ?_
        refine w_get (pc2 := 62) G foX6_9 0 rfl rfl dX6_whyNot_59 rfl ?_
        refine w_aload_n (pc2 := 63) G 1 rfl dX6_whyNot_62 rfl rfl ?_
        refine w_get (pc2 := 66) G foX6_34 2 rfl rfl dX6_whyNot_63 rfl ?_
        obtain ⟨v3, H_v3, h⟩ := bs h
        refine w_laldo (pc2 := 67) G 1 rfl H_v3 dX6_whyNot_66 rfl ?_
        refine w_aload_n (pc2 := 68) G 1 rfl dX6_whyNot_67 rfl rfl ?_
        refine w_get (pc2 := 71) G foX6_37 2 rfl rfl dX6_whyNot_68 rfl ?_
        obtain ⟨x4, H_x4, h⟩ := bs h
        refine w_cS0 (pc2 := 74) (As := [.int (1 : Int32), .long v3, .int c_r1_key]) (rest := []) G koX6_40 (r_X6_whyNotOne H_x4) (Nat.le_of_ble_eq_true rfl) rfl rfl (Nat.le_of_ble_eq_true rfl) ⟨Nat.zero_le _, Nat.zero_le _⟩ dX6_whyNot_71 rfl rfl ?_
        cases h
        exact w_iret G hQ rfl ⟨rfl, rfl⟩ dX6_whyNot_74
    · replace h := (if_neg cc).symm.trans h
      refine w_aload_n (pc2 := 36) G 1 rfl dX6_whyNot_35 rfl rfl ?_
      refine w_get (pc2 := 39) G foX6_29 2 rfl rfl dX6_whyNot_36 rfl ?_
      refine w_bipush (pc2 := 41) G dX6_whyNot_39 k_bipush_45 rfl ?_
      refine w_icmp_ne (tgt := 75) (pc2 := 44) G dX6_whyNot_41 (by decide) rfl (fun cc => ?_) (fun cc => ?_)
      · replace h := (if_neg cc).symm.trans h
        refine w_aload_n (pc2 := 76) G 1 rfl dX6_whyNot_75 rfl rfl ?_
        refine w_get (pc2 := 79) G foX6_34 2 rfl rfl dX6_whyNot_76 rfl ?_
        refine w_aload_n (pc2 := 80) G 1 rfl dX6_whyNot_79 rfl rfl ?_
        refine w_get (pc2 := 83) G foX6_44 2 rfl rfl dX6_whyNot_80 rfl ?_
        refine w_icmp_ne (tgt := 90) (pc2 := 86) G dX6_whyNot_83 (by decide) rfl (fun cc => ?_) (fun cc => ?_)
        · replace h := (if_neg cc).symm.trans h
          refine w_aload_n (pc2 := 91) G 1 rfl dX6_whyNot_90 rfl rfl ?_
          refine w_get (pc2 := 94) G foX6_29 2 rfl rfl dX6_whyNot_91 rfl ?_
          refine w_aload_n (pc2 := 95) G 0 rfl dX6_whyNot_94 rfl rfl ?_
          refine w_get (pc2 := 98) G foX6_9 0 rfl rfl dX6_whyNot_95 rfl ?_
          refine w_aload_n (pc2 := 99) G 1 rfl dX6_whyNot_98 rfl rfl ?_
          refine w_get (pc2 := 102) G foX6_34 2 rfl rfl dX6_whyNot_99 rfl ?_
          obtain ⟨v5, H_v5, h⟩ := bs h
          refine w_laldo (pc2 := 103) G 1 rfl H_v5 dX6_whyNot_102 rfl ?_
          refine w_aload_n (pc2 := 104) G 0 rfl dX6_whyNot_103 rfl rfl ?_
          refine w_get (pc2 := 107) G foX6_9 0 rfl rfl dX6_whyNot_104 rfl ?_
          refine w_aload_n (pc2 := 108) G 1 rfl dX6_whyNot_107 rfl rfl ?_
          refine w_get (pc2 := 111) G foX6_44 2 rfl rfl dX6_whyNot_108 rfl ?_
          obtain ⟨v6, H_v6, h⟩ := bs h
          refine w_laldo (pc2 := 112) G 1 rfl H_v6 dX6_whyNot_111 rfl ?_
          obtain ⟨x7, H_x7, h⟩ := bs h
          refine w_cS0 (pc2 := 115) (As := [.int c_r1_kind, .long v5, .long v6]) (rest := []) G koX6_47 (r_X6_whyNotTwo H_x7) (Nat.le_of_ble_eq_true rfl) rfl rfl (Nat.le_of_ble_eq_true rfl) ⟨Nat.zero_le _, Nat.zero_le _⟩ dX6_whyNot_112 rfl rfl ?_
          cases h
          exact w_iret G hQ rfl ⟨rfl, rfl⟩ dX6_whyNot_115
        · replace h := (if_pos cc).symm.trans h
          refine w_iconst (pc2 := 87) G dX6_whyNot_86 k_iconst_1 rfl ?_
          refine w_goto (tgt := 115) G dX6_whyNot_87 (by decide) ?_
          cases h
          exact w_iret G hQ rfl ⟨rfl, rfl⟩ dX6_whyNot_115
      · replace h := (if_pos cc).symm.trans h
        refine w_aload_n (pc2 := 45) G 1 rfl dX6_whyNot_44 rfl rfl ?_
        refine w_get (pc2 := 48) G foX6_29 2 rfl rfl dX6_whyNot_45 rfl ?_
        refine w_bipush (pc2 := 50) G dX6_whyNot_48 k_bipush_43 rfl ?_
        refine w_icmp_ne (tgt := 57) (pc2 := 53) G dX6_whyNot_50 (by decide) rfl (fun cc => ?_) (fun cc => ?_)
        · replace h := (if_neg cc).symm.trans h
          refine w_iconst (pc2 := 58) G dX6_whyNot_57 k_iconst_0 rfl ?_
          refine w_aload_n (pc2 := 59) G 0 rfl dX6_whyNot_58 rfl rfl ?_
          refine w_get (pc2 := 62) G foX6_9 0 rfl rfl dX6_whyNot_59 rfl ?_
          refine w_aload_n (pc2 := 63) G 1 rfl dX6_whyNot_62 rfl rfl ?_
          refine w_get (pc2 := 66) G foX6_34 2 rfl rfl dX6_whyNot_63 rfl ?_
          obtain ⟨v8, H_v8, h⟩ := bs h
          refine w_laldo (pc2 := 67) G 1 rfl H_v8 dX6_whyNot_66 rfl ?_
          refine w_aload_n (pc2 := 68) G 1 rfl dX6_whyNot_67 rfl rfl ?_
          refine w_get (pc2 := 71) G foX6_37 2 rfl rfl dX6_whyNot_68 rfl ?_
          obtain ⟨x9, H_x9, h⟩ := bs h
          refine w_cS0 (pc2 := 74) (As := [.int (0 : Int32), .long v8, .int c_r1_key]) (rest := []) G koX6_40 (r_X6_whyNotOne H_x9) (Nat.le_of_ble_eq_true rfl) rfl rfl (Nat.le_of_ble_eq_true rfl) ⟨Nat.zero_le _, Nat.zero_le _⟩ dX6_whyNot_71 rfl rfl ?_
          cases h
          exact w_iret G hQ rfl ⟨rfl, rfl⟩ dX6_whyNot_74
        · replace h := (if_pos cc).symm.trans h
          refine w_iconst (pc2 := 54) G dX6_whyNot_53 k_iconst_1 rfl ?_
          refine w_goto (tgt := 58) G dX6_whyNot_54 (by decide) ?_
          refine w_aload_n (pc2 := 59) G 0 rfl dX6_whyNot_58 rfl rfl ?_
          refine w_get (pc2 := 62) G foX6_9 0 rfl rfl dX6_whyNot_59 rfl ?_
          refine w_aload_n (pc2 := 63) G 1 rfl dX6_whyNot_62 rfl rfl ?_
          refine w_get (pc2 := 66) G foX6_34 2 rfl rfl dX6_whyNot_63 rfl ?_
          obtain ⟨v10, H_v10, h⟩ := bs h
          refine w_laldo (pc2 := 67) G 1 rfl H_v10 dX6_whyNot_66 rfl ?_
          refine w_aload_n (pc2 := 68) G 1 rfl dX6_whyNot_67 rfl rfl ?_
          refine w_get (pc2 := 71) G foX6_37 2 rfl rfl dX6_whyNot_68 rfl ?_
          obtain ⟨x11, H_x11, h⟩ := bs h
          refine w_cS0 (pc2 := 74) (As := [.int (1 : Int32), .long v10, .int c_r1_key]) (rest := []) G koX6_40 (r_X6_whyNotOne H_x11) (Nat.le_of_ble_eq_true rfl) rfl rfl (Nat.le_of_ble_eq_true rfl) ⟨Nat.zero_le _, Nat.zero_le _⟩ dX6_whyNot_71 rfl rfl ?_
          cases h
          exact w_iret G hQ rfl ⟨rfl, rfl⟩ dX6_whyNot_74
  · replace h := (if_pos cc).symm.trans h
    refine w_aload_n (pc2 := 10) G 0 rfl dX6_whyNot_9 rfl rfl ?_
    refine w_get (pc2 := 13) G foX6_21 0 rfl rfl dX6_whyNot_10 rfl ?_
    refine w_sipush (pc2 := 16) G dX6_whyNot_13 k_sipush_9999 rfl ?_
    refine w_icmp_lt (tgt := 24) (pc2 := 19) G dX6_whyNot_16 (by decide) rfl (fun cc => ?_) (fun cc => ?_)
    · replace h := (if_pos cc).symm.trans h
      refine w_iconst (pc2 := 25) G dX6_whyNot_24 k_iconst_0 rfl ?_
      cases h
      exact w_iret G hQ rfl ⟨rfl, rfl⟩ dX6_whyNot_25
    · replace h := (if_neg cc).symm.trans h
      refine w_bipush (pc2 := 21) G dX6_whyNot_19 k_bipush_6 rfl ?_
      refine w_goto (tgt := 25) G dX6_whyNot_21 (by decide) ?_
      cases h
      exact w_iret G hQ rfl ⟨rfl, rfl⟩ dX6_whyNot_25

set_option maxHeartbeats 4000000 in
set_option maxRecDepth 100000 in
theorem r_X7_less {l : Launch} {E : EV}  {l0 : Int32} {R : Int64} (h : f_X7_less l0 = some R) : Ret1 l E yX7_less cX7_less 1 (some .long) 1 [] [.int l0] (some (.long R)) [] := by
  refine Ret.intro (lv := [(0, .int l0)]) (by decide) (Nat.le_of_ble_eq_true rfl) rfl ?_
  intro g hgl G hQ
  subst hgl
  rw [f_X7_less] at h
  refine w_iload_n (pc2 := 1) G 0 rfl dX7_less_0 rfl rfl ?_
  obtain ⟨x1, H_x1, h⟩ := bs h
  refine w_cS0 (pc2 := 4) (As := [.int l0]) (rest := []) G koX7_91 (r_X7_bit H_x1) (Nat.le_of_ble_eq_true rfl) rfl rfl (Nat.le_of_ble_eq_true rfl) ⟨Nat.zero_le _, Nat.zero_le _⟩ dX7_less_1 rfl rfl ?_
  refine w_lconst (pc2 := 5) G dX7_less_4 k_lconst_1 rfl ?_
  refine w_lsub (pc2 := 6) G dX7_less_5 rfl ?_
  cases h
  exact w_lret G hQ rfl ⟨rfl, rfl⟩ dX7_less_6
