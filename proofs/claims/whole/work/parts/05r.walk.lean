set_option maxHeartbeats 4000000 in
set_option maxRecDepth 100000 in
theorem lp_X8_shapes_39 {g : CX} {E : EV} {a : Nat → Nat} {o : Nat} {c_seed : Int32} {c_is c_sightOne c_sightOther : Nat → Int32} {c_sights : Int32} {c_pad : Nat → Int32} {c_padMany : Int32} {c_act c_which c_key c_other : Nat → Int32} {c_acts : Int32} {c_order : Nat → Int32} {c_digest : Nat → Int64} {c_tall c_had : Nat → Int32} {c_badAct c_badWhy c_alikeAct c_alikeTwo c_work c_isWorked : Int32} {c_trees : Nat → Int64} {c_from c_upTo c_kept c_isKept : Nat → Int32} {c_keptAt c_isWriting : Int32} {l1 : Int32} (G : GG g E RX8 cX8_shapes 4 (some .long) 1 0 0) : ∀ (n : Nat) (c_shape : Nat → Int64) (l2 : Int32) (l3 : Int32) (R : (Nat → Int64)), L_X8_shapes_39 n c_shape l2 l3 = some R → WW g E 4 0 0 (wX8 E a o c_seed c_is c_sightOne c_sightOther c_sights c_pad c_padMany c_act c_which c_key c_other c_acts c_order c_digest c_tall c_had c_badAct c_badWhy c_alikeAct c_alikeTwo c_work c_isWorked c_trees c_from c_upTo R c_kept c_isKept c_keptAt c_isWriting) [(0, .ref (a o)), (1, .int l1), (2, .int l2)] 76 [] → WW g E 4 0 0 (wX8 E a o c_seed c_is c_sightOne c_sightOther c_sights c_pad c_padMany c_act c_which c_key c_other c_acts c_order c_digest c_tall c_had c_badAct c_badWhy c_alikeAct c_alikeTwo c_work c_isWorked c_trees c_from c_upTo c_shape c_kept c_isKept c_keptAt c_isWriting) [(0, .ref (a o)), (1, .int l1), (2, .int l2), (3, .int l3)] 39 [] := by
  intro n
  induction n with
  | zero => intro c_shape l2 l3 R h; exact no_some h
  | succ n ih =>
    intro c_shape l2 l3 R h K
    rw [L_X8_shapes_39] at h
    refine w_iload_n (pc2 := 40) G 3 rfl dX8_shapes_39 rfl rfl ?_
    refine w_iload_n (pc2 := 41) G 2 rfl dX8_shapes_40 rfl rfl ?_
    refine w_icmp_ge (tgt := 76) (pc2 := 44) G dX8_shapes_41 (by decide) rfl (fun cc => ?_) (fun cc => ?_)
    · replace h := (if_pos cc).symm.trans h
      cases h
      exact w_lv [0, 1, 2] rfl K
    · replace h := (if_neg cc).symm.trans h
      refine w_aload_n (pc2 := 45) G 0 rfl dX8_shapes_44 rfl rfl ?_
      refine w_get (pc2 := 48) G foX8_56 0 rfl rfl dX8_shapes_45 rfl ?_
      refine w_iload_n (pc2 := 49) G 2 rfl dX8_shapes_48 rfl rfl ?_
      refine w_dup2 (pc2 := 50) G dX8_shapes_49 rfl rfl rfl ?_
      obtain ⟨v1, H_v1, h⟩ := bs h
      refine w_laldo (pc2 := 51) G 16 rfl H_v1 dX8_shapes_50 rfl ?_
      refine w_aload_n (pc2 := 52) G 0 rfl dX8_shapes_51 rfl rfl ?_
      refine w_get (pc2 := 55) G foX8_56 0 rfl rfl dX8_shapes_52 rfl ?_
      refine w_iload_n (pc2 := 56) G 3 rfl dX8_shapes_55 rfl rfl ?_
      obtain ⟨v2, H_v2, h⟩ := bs h
      refine w_laldo (pc2 := 57) G 16 rfl H_v2 dX8_shapes_56 rfl ?_
      refine w_aload_n (pc2 := 58) G 0 rfl dX8_shapes_57 rfl rfl ?_
      refine w_get (pc2 := 61) G foX8_56 0 rfl rfl dX8_shapes_58 rfl ?_
      refine w_iload_n (pc2 := 62) G 2 rfl dX8_shapes_61 rfl rfl ?_
      refine w_iconst (pc2 := 63) G dX8_shapes_62 k_iconst_1 rfl ?_
      refine w_isub (pc2 := 64) G dX8_shapes_63 rfl ?_
      refine w_iload_n (pc2 := 65) G 3 rfl dX8_shapes_64 rfl rfl ?_
      refine w_isub (pc2 := 66) G dX8_shapes_65 rfl ?_
      obtain ⟨v3, H_v3, h⟩ := bs h
      refine w_laldo (pc2 := 67) G 16 rfl H_v3 dX8_shapes_66 rfl ?_
      refine w_lmul (pc2 := 68) G dX8_shapes_67 rfl ?_
      refine w_ladd (pc2 := 69) G dX8_shapes_68 rfl ?_
      obtain ⟨f4, H_f4, h⟩ := bs h
      refine w_lasto (pc2 := 70) (ws2 := (wX8 E a o c_seed c_is c_sightOne c_sightOther c_sights c_pad c_padMany c_act c_which c_key c_other c_acts c_order c_digest c_tall c_had c_badAct c_badWhy c_alikeAct c_alikeTwo c_work c_isWorked c_trees c_from c_upTo f4 c_kept c_isKept c_keptAt c_isWriting)) G 16 rfl H_f4 rfl dX8_shapes_69 rfl ?_
      refine w_iinc (pc2 := 73) (lv2 := [(3, .int (l3 + (1 : Int32))), (0, .ref (a o)), (1, .int l1), (2, .int l2)]) G 3 rfl dX8_shapes_70 k_iconst_1 (Nat.le_of_ble_eq_true rfl) rfl rfl ?_
      refine w_goto (tgt := 39) G dX8_shapes_73 (by decide) ?_
      exact w_lv [1, 2, 3, 0] rfl (ih _ _ _ _ h K)
set_option maxHeartbeats 4000000 in
set_option maxRecDepth 100000 in
theorem lp_X8_shapes_25 {g : CX} {E : EV} {a : Nat → Nat} {o : Nat} {c_seed : Int32} {c_is c_sightOne c_sightOther : Nat → Int32} {c_sights : Int32} {c_pad : Nat → Int32} {c_padMany : Int32} {c_act c_which c_key c_other : Nat → Int32} {c_acts : Int32} {c_order : Nat → Int32} {c_digest : Nat → Int64} {c_tall c_had : Nat → Int32} {c_badAct c_badWhy c_alikeAct c_alikeTwo c_work c_isWorked : Int32} {c_trees : Nat → Int64} {c_from c_upTo c_kept c_isKept : Nat → Int32} {c_keptAt c_isWriting : Int32}  (G : GG g E RX8 cX8_shapes 4 (some .long) 1 0 0) : ∀ (n : Nat) (c_shape : Nat → Int64) (l1 : Int32) (l2 : Int32) (R : (Nat → Int64)), L_X8_shapes_25 n c_shape l1 l2 = some R → WW g E 4 0 0 (wX8 E a o c_seed c_is c_sightOne c_sightOther c_sights c_pad c_padMany c_act c_which c_key c_other c_acts c_order c_digest c_tall c_had c_badAct c_badWhy c_alikeAct c_alikeTwo c_work c_isWorked c_trees c_from c_upTo R c_kept c_isKept c_keptAt c_isWriting) [(0, .ref (a o)), (1, .int l1)] 82 [] → WW g E 4 0 0 (wX8 E a o c_seed c_is c_sightOne c_sightOther c_sights c_pad c_padMany c_act c_which c_key c_other c_acts c_order c_digest c_tall c_had c_badAct c_badWhy c_alikeAct c_alikeTwo c_work c_isWorked c_trees c_from c_upTo c_shape c_kept c_isKept c_keptAt c_isWriting) [(0, .ref (a o)), (1, .int l1), (2, .int l2)] 25 [] := by
  intro n
  induction n with
  | zero => intro c_shape l1 l2 R h; exact no_some h
  | succ n ih =>
    intro c_shape l1 l2 R h K
    rw [L_X8_shapes_25] at h
    refine w_iload_n (pc2 := 26) G 2 rfl dX8_shapes_25 rfl rfl ?_
    refine w_iload_n (pc2 := 27) G 1 rfl dX8_shapes_26 rfl rfl ?_
    refine w_icmp_gt (tgt := 82) (pc2 := 30) G dX8_shapes_27 (by decide) rfl (fun cc => ?_) (fun cc => ?_)
    · replace h := (if_pos cc).symm.trans h
      cases h
      exact w_lv [0, 1] rfl K
    · replace h := (if_neg cc).symm.trans h
      refine w_aload_n (pc2 := 31) G 0 rfl dX8_shapes_30 rfl rfl ?_
      refine w_get (pc2 := 34) G foX8_56 0 rfl rfl dX8_shapes_31 rfl ?_
      refine w_iload_n (pc2 := 35) G 2 rfl dX8_shapes_34 rfl rfl ?_
      refine w_lconst (pc2 := 36) G dX8_shapes_35 k_lconst_0 rfl ?_
      obtain ⟨f1, H_f1, h⟩ := bs h
      refine w_lasto (pc2 := 37) (ws2 := (wX8 E a o c_seed c_is c_sightOne c_sightOther c_sights c_pad c_padMany c_act c_which c_key c_other c_acts c_order c_digest c_tall c_had c_badAct c_badWhy c_alikeAct c_alikeTwo c_work c_isWorked c_trees c_from c_upTo f1 c_kept c_isKept c_keptAt c_isWriting)) G 16 rfl H_f1 rfl dX8_shapes_36 rfl ?_
      refine w_iconst (pc2 := 38) G dX8_shapes_37 k_iconst_0 rfl ?_
      refine w_istore_n (pc2 := 39) (lv2 := [(3, .int (0 : Int32)), (0, .ref (a o)), (1, .int l1), (2, .int l2)]) G dX8_shapes_38 rfl (Nat.le_of_ble_eq_true rfl) rfl rfl ?_
      obtain ⟨x2, h0, h⟩ := bs h
      have K_x2 : WW g E 4 0 0 (wX8 E a o c_seed c_is c_sightOne c_sightOther c_sights c_pad c_padMany c_act c_which c_key c_other c_acts c_order c_digest c_tall c_had c_badAct c_badWhy c_alikeAct c_alikeTwo c_work c_isWorked c_trees c_from c_upTo x2 c_kept c_isKept c_keptAt c_isWriting) [(0, .ref (a o)), (1, .int l1), (2, .int l2)] 76 [] := by
        clear h0
        refine w_iinc (pc2 := 79) (lv2 := [(2, .int (l2 + (1 : Int32))), (0, .ref (a o)), (1, .int l1)]) G 2 rfl dX8_shapes_76 k_iconst_1 (Nat.le_of_ble_eq_true rfl) rfl rfl ?_
        refine w_goto (tgt := 25) G dX8_shapes_79 (by decide) ?_
        exact w_lv [1, 2, 0] rfl (ih _ _ _ _ h K)
      exact w_lv [1, 2, 3, 0] rfl (lp_X8_shapes_39 G 20000 _ _ _ _ h0 (w_lv [0, 1, 2] rfl K_x2))
set_option maxHeartbeats 4000000 in
set_option maxRecDepth 100000 in
theorem r_X8_shapes {l : Launch} {E : EV} {a : Nat → Nat} {o : Nat} {c_seed : Int32} {c_is c_sightOne c_sightOther : Nat → Int32} {c_sights : Int32} {c_pad : Nat → Int32} {c_padMany : Int32} {c_act c_which c_key c_other : Nat → Int32} {c_acts : Int32} {c_order : Nat → Int32} {c_digest : Nat → Int64} {c_tall c_had : Nat → Int32} {c_badAct c_badWhy c_alikeAct c_alikeTwo c_work c_isWorked : Int32} {c_trees : Nat → Int64} {c_from c_upTo : Nat → Int32} {c_shape : Nat → Int64} {c_kept c_isKept : Nat → Int32} {c_keptAt c_isWriting : Int32} {l1 : Int32} {R : Int64 × (Nat → Int64)} (h : f_X8_shapes c_shape l1 = some R) : Ret1 l E yX8_shapes cX8_shapes 4 (some .long) 1 (wX8 E a o c_seed c_is c_sightOne c_sightOther c_sights c_pad c_padMany c_act c_which c_key c_other c_acts c_order c_digest c_tall c_had c_badAct c_badWhy c_alikeAct c_alikeTwo c_work c_isWorked c_trees c_from c_upTo c_shape c_kept c_isKept c_keptAt c_isWriting) [.ref (a o), .int l1] (some (.long R.1)) (wX8 E a o c_seed c_is c_sightOne c_sightOther c_sights c_pad c_padMany c_act c_which c_key c_other c_acts c_order c_digest c_tall c_had c_badAct c_badWhy c_alikeAct c_alikeTwo c_work c_isWorked c_trees c_from c_upTo R.2 c_kept c_isKept c_keptAt c_isWriting) := by
  refine Ret.intro (lv := [(0, .ref (a o)), (1, .int l1)]) (by decide) (Nat.le_of_ble_eq_true rfl) rfl ?_
  intro g hgl G hQ
  subst hgl
  rw [f_X8_shapes] at h
  refine w_iload_n (pc2 := 1) G 1 rfl dX8_shapes_0 rfl rfl ?_
  refine w_i2l (pc2 := 2) G dX8_shapes_1 rfl ?_
  refine w_lconst (pc2 := 3) G dX8_shapes_2 k_lconst_0 rfl ?_
  refine w_ldc2 (pc2 := 6) G wd_352 dX8_shapes_3 rfl ?_
  obtain ⟨x1, H_x1, h⟩ := bs h
  refine w_cS0 (pc2 := 9) (As := [.long l1.toInt64, .long (0 : Int64), .long (30 : Int64)]) (rest := []) G koX8_68 (r_X8_in H_x1) (Nat.le_of_ble_eq_true rfl) rfl rfl (Nat.le_of_ble_eq_true rfl) ⟨Nat.zero_le _, Nat.zero_le _⟩ dX8_shapes_6 rfl rfl ?_
  refine w_if_ne (tgt := 16) (pc2 := 12) G dX8_shapes_9 (by decide) rfl (fun cc => ?_) (fun cc => ?_)
  · replace h := (if_neg cc).symm.trans h
    refine w_aload_n (pc2 := 17) G 0 rfl dX8_shapes_16 rfl rfl ?_
    refine w_get (pc2 := 20) G foX8_56 0 rfl rfl dX8_shapes_17 rfl ?_
    refine w_iconst (pc2 := 21) G dX8_shapes_20 k_iconst_0 rfl ?_
    refine w_lconst (pc2 := 22) G dX8_shapes_21 k_lconst_1 rfl ?_
    obtain ⟨f2, H_f2, h⟩ := bs h
    refine w_lasto (pc2 := 23) (ws2 := (wX8 E a o c_seed c_is c_sightOne c_sightOther c_sights c_pad c_padMany c_act c_which c_key c_other c_acts c_order c_digest c_tall c_had c_badAct c_badWhy c_alikeAct c_alikeTwo c_work c_isWorked c_trees c_from c_upTo f2 c_kept c_isKept c_keptAt c_isWriting)) G 16 rfl H_f2 rfl dX8_shapes_22 rfl ?_
    refine w_iconst (pc2 := 24) G dX8_shapes_23 k_iconst_1 rfl ?_
    refine w_istore_n (pc2 := 25) (lv2 := [(2, .int (1 : Int32)), (0, .ref (a o)), (1, .int l1)]) G dX8_shapes_24 rfl (Nat.le_of_ble_eq_true rfl) rfl rfl ?_
    obtain ⟨x3, h0, h⟩ := bs h
    have K_x3 : WW g E 4 0 0 (wX8 E a o c_seed c_is c_sightOne c_sightOther c_sights c_pad c_padMany c_act c_which c_key c_other c_acts c_order c_digest c_tall c_had c_badAct c_badWhy c_alikeAct c_alikeTwo c_work c_isWorked c_trees c_from c_upTo x3 c_kept c_isKept c_keptAt c_isWriting) [(0, .ref (a o)), (1, .int l1)] 82 [] := by
      clear h0
      refine w_aload_n (pc2 := 83) G 0 rfl dX8_shapes_82 rfl rfl ?_
      refine w_get (pc2 := 86) G foX8_56 0 rfl rfl dX8_shapes_83 rfl ?_
      refine w_iload_n (pc2 := 87) G 1 rfl dX8_shapes_86 rfl rfl ?_
      obtain ⟨v4, H_v4, h⟩ := bs h
      refine w_laldo (pc2 := 88) G 16 rfl H_v4 dX8_shapes_87 rfl ?_
      cases h
      exact w_lret G hQ rfl ⟨rfl, rfl⟩ dX8_shapes_88
    exact w_lv [1, 2, 0] rfl (lp_X8_shapes_25 G 20000 _ _ _ _ h0 (w_lv [0, 1] rfl K_x3))
  · replace h := (if_pos cc).symm.trans h
    refine w_ldc2 (pc2 := 15) G wd_353 dX8_shapes_12 rfl ?_
    cases h
    exact w_lret G hQ rfl ⟨rfl, rfl⟩ dX8_shapes_15

set_option maxHeartbeats 4000000 in
set_option maxRecDepth 100000 in
theorem lp_X8_divisor_6 {g : CX} {E : EV}   (G : GG g E RX8 cX8_divisor 10 (some .long) 0 0 0) : ∀ (n : Nat) (l4 : Int64) (l6 : Int64) (R : Int64), L_X8_divisor_6 n l4 l6 = some R → WW g E 10 0 0 [] [(4, .long R)] 31 [] → WW g E 10 0 0 [] [(4, .long l4), (6, .long l6)] 6 [] := by
  intro n
  induction n with
  | zero => intro l4 l6 R h; exact no_some h
  | succ n ih =>
    intro l4 l6 R h K
    rw [L_X8_divisor_6] at h
    refine w_lload (pc2 := 8) G 1 rfl dX8_divisor_6 rfl ?_
    refine w_lconst (pc2 := 9) G dX8_divisor_8 k_lconst_0 rfl ?_
    refine w_lcmp (pc2 := 10) G dX8_divisor_9 rfl ?_
    refine w_if_eq (tgt := 31) (pc2 := 13) G dX8_divisor_10 (by decide) rfl (fun cc => ?_) (fun cc => ?_)
    · replace h := (if_pos cc).symm.trans h
      cases h
      exact w_lv [0] rfl K
    · replace h := (if_neg cc).symm.trans h
      refine w_lload (pc2 := 15) G 0 rfl dX8_divisor_13 rfl ?_
      refine w_lload (pc2 := 17) G 1 rfl dX8_divisor_15 rfl ?_
      obtain ⟨v1, H_v1, h⟩ := bs h
      refine w_lremo (pc2 := 18) G H_v1 dX8_divisor_17 rfl ?_
      refine w_lstore (pc2 := 20) (lv2 := [(8, .long v1), (4, .long l4), (6, .long l6)]) G dX8_divisor_18 (Nat.le_of_ble_eq_true rfl) rfl rfl ?_
      refine w_lload (pc2 := 22) G 2 rfl dX8_divisor_20 rfl ?_
      refine w_lstore (pc2 := 24) (lv2 := [(4, .long l6), (8, .long v1), (6, .long l6)]) G dX8_divisor_22 (Nat.le_of_ble_eq_true rfl) rfl rfl ?_
      refine w_lload (pc2 := 26) G 1 rfl dX8_divisor_24 rfl ?_
      refine w_lstore (pc2 := 28) (lv2 := [(6, .long v1), (4, .long l6), (8, .long v1)]) G dX8_divisor_26 (Nat.le_of_ble_eq_true rfl) rfl rfl ?_
      refine w_goto (tgt := 6) G dX8_divisor_28 (by decide) ?_
      exact w_lv [1, 0] rfl (ih _ _ _ h K)
set_option maxHeartbeats 4000000 in
set_option maxRecDepth 100000 in
theorem r_X8_divisor {l : Launch} {E : EV}  {l0 : Int64} {l2 : Int64} {R : Int64} (h : f_X8_divisor l0 l2 = some R) : Ret1 l E yX8_divisor cX8_divisor 10 (some .long) 0 [] [.long l0, .long l2] (some (.long R)) [] := by
  refine Ret.intro (lv := [(0, .long l0), (2, .long l2)]) (by decide) (Nat.le_of_ble_eq_true rfl) rfl ?_
  intro g hgl G hQ
  subst hgl
  rw [f_X8_divisor] at h
  refine w_lload_n (pc2 := 1) G 1 rfl dX8_divisor_0 rfl rfl ?_
  refine w_lstore (pc2 := 3) (lv2 := [(4, .long l2), (0, .long l0), (2, .long l2)]) G dX8_divisor_1 (Nat.le_of_ble_eq_true rfl) rfl rfl ?_
  refine w_lload_n (pc2 := 4) G 1 rfl dX8_divisor_3 rfl rfl ?_
  refine w_lstore (pc2 := 6) (lv2 := [(6, .long l0), (4, .long l2), (0, .long l0), (2, .long l2)]) G dX8_divisor_4 (Nat.le_of_ble_eq_true rfl) rfl rfl ?_
  obtain ⟨x1, h0, h⟩ := bs h
  have K_x1 : WW g E 10 0 0 [] [(4, .long x1)] 31 [] := by
    clear h0
    refine w_lload (pc2 := 33) G 0 rfl dX8_divisor_31 rfl ?_
    cases h
    exact w_lret G hQ rfl ⟨rfl, rfl⟩ dX8_divisor_33
  exact w_lv [1, 0] rfl (lp_X8_divisor_6 G 20000 _ _ _ h0 (w_lv [0] rfl K_x1))

set_option maxHeartbeats 4000000 in
set_option maxRecDepth 100000 in
theorem lp_X8_deep_45 {g : CX} {E : EV} {a : Nat → Nat} {o : Nat} {c_seed : Int32} {c_is c_sightOne c_sightOther : Nat → Int32} {c_sights : Int32} {c_pad : Nat → Int32} {c_padMany : Int32} {c_act c_which c_key c_other : Nat → Int32} {c_acts : Int32} {c_order : Nat → Int32} {c_digest : Nat → Int64} {c_tall c_had : Nat → Int32} {c_badAct c_badWhy c_alikeAct c_alikeTwo c_work c_isWorked : Int32} {c_trees : Nat → Int64} {c_from c_upTo : Nat → Int32} {c_shape : Nat → Int64} {c_kept c_isKept : Nat → Int32} {c_keptAt c_isWriting : Int32} {l1 : Int32} {l2 : Int32} {l3 : Int32} (G : GG g E RX8 cX8_deep 10 (some .long) 1 0 0) : ∀ (n : Nat) (l4 : Int64) (l6 : Int32) (R : Int64), L_X8_deep_45 n l4 l6 = some R → WW g E 10 0 0 (wX8 E a o c_seed c_is c_sightOne c_sightOther c_sights c_pad c_padMany c_act c_which c_key c_other c_acts c_order c_digest c_tall c_had c_badAct c_badWhy c_alikeAct c_alikeTwo c_work c_isWorked c_trees c_from c_upTo c_shape c_kept c_isKept c_keptAt c_isWriting) [(1, .int l1), (2, .int l2), (3, .int l3), (4, .long R)] 75 [] → WW g E 10 0 0 (wX8 E a o c_seed c_is c_sightOne c_sightOther c_sights c_pad c_padMany c_act c_which c_key c_other c_acts c_order c_digest c_tall c_had c_badAct c_badWhy c_alikeAct c_alikeTwo c_work c_isWorked c_trees c_from c_upTo c_shape c_kept c_isKept c_keptAt c_isWriting) [(1, .int l1), (2, .int l2), (3, .int l3), (4, .long l4), (6, .int l6)] 45 [] := by
  intro n
  induction n with
  | zero => intro l4 l6 R h; exact no_some h
  | succ n ih =>
    intro l4 l6 R h K
    rw [L_X8_deep_45] at h
    refine w_iload (pc2 := 47) G 4 rfl dX8_deep_45 rfl ?_
    refine w_bipush (pc2 := 49) G dX8_deep_47 k_bipush_20 rfl ?_
    refine w_icmp_gt (tgt := 75) (pc2 := 52) G dX8_deep_49 (by decide) rfl (fun cc => ?_) (fun cc => ?_)
    · replace h := (if_pos cc).symm.trans h
      cases h
      exact w_lv [0, 1, 2, 3] rfl K
    · replace h := (if_neg cc).symm.trans h
      refine w_lload (pc2 := 54) G 3 rfl dX8_deep_52 rfl ?_
      refine w_lload (pc2 := 56) G 3 rfl dX8_deep_54 rfl ?_
      refine w_iload (pc2 := 58) G 4 rfl dX8_deep_56 rfl ?_
      refine w_i2l (pc2 := 59) G dX8_deep_58 rfl ?_
      obtain ⟨x1, H_x1, h⟩ := bs h
      refine w_cS0 (pc2 := 62) (As := [.long l4, .long l6.toInt64]) (rest := [.long l4]) G koX8_311 (r_X8_divisor H_x1) (Nat.le_of_ble_eq_true rfl) rfl rfl (Nat.le_of_ble_eq_true rfl) ⟨Nat.zero_le _, Nat.zero_le _⟩ dX8_deep_59 rfl rfl ?_
      obtain ⟨v2, H_v2, h⟩ := bs h
      refine w_ldivo (pc2 := 63) G H_v2 dX8_deep_62 rfl ?_
      refine w_iload (pc2 := 65) G 4 rfl dX8_deep_63 rfl ?_
      refine w_i2l (pc2 := 66) G dX8_deep_65 rfl ?_
      refine w_lmul (pc2 := 67) G dX8_deep_66 rfl ?_
      refine w_lstore (pc2 := 69) (lv2 := [(4, .long (v2 * l6.toInt64)), (1, .int l1), (2, .int l2), (3, .int l3), (6, .int l6)]) G dX8_deep_67 (Nat.le_of_ble_eq_true rfl) rfl rfl ?_
      refine w_iinc (pc2 := 72) (lv2 := [(6, .int (l6 + (1 : Int32))), (4, .long (v2 * l6.toInt64)), (1, .int l1), (2, .int l2), (3, .int l3)]) G 4 rfl dX8_deep_69 k_iconst_1 (Nat.le_of_ble_eq_true rfl) rfl rfl ?_
      refine w_goto (tgt := 45) G dX8_deep_72 (by decide) ?_
      exact w_lv [2, 3, 4, 1, 0] rfl (ih _ _ _ h K)
set_option maxHeartbeats 4000000 in
set_option maxRecDepth 100000 in
theorem lp_X8_deep_81 {g : CX} {E : EV} {a : Nat → Nat} {o : Nat} {c_seed : Int32} {c_is c_sightOne c_sightOther : Nat → Int32} {c_sights : Int32} {c_pad : Nat → Int32} {c_padMany : Int32} {c_act c_which c_key c_other : Nat → Int32} {c_acts : Int32} {c_order : Nat → Int32} {c_digest : Nat → Int64} {c_tall c_had : Nat → Int32} {c_badAct c_badWhy c_alikeAct c_alikeTwo c_work c_isWorked : Int32} {c_trees : Nat → Int64} {c_from c_upTo : Nat → Int32} {c_shape : Nat → Int64} {c_kept c_isKept : Nat → Int32} {c_keptAt c_isWriting : Int32} {l3 : Int32} (G : GG g E RX8 cX8_deep 10 (some .long) 1 0 0) : ∀ (n : Nat) (l1 : Int32) (l2 : Int32) (l4 : Int64) (l6 : Int64) (l8 : Int32) (R : Int64), L_X8_deep_81 n l1 l2 l4 l6 l8 = some R → WW g E 10 0 0 (wX8 E a o c_seed c_is c_sightOne c_sightOther c_sights c_pad c_padMany c_act c_which c_key c_other c_acts c_order c_digest c_tall c_had c_badAct c_badWhy c_alikeAct c_alikeTwo c_work c_isWorked c_trees c_from c_upTo c_shape c_kept c_isKept c_keptAt c_isWriting) [(3, .int l3), (4, .long l4), (6, .long R)] 134 [] → WW g E 10 0 0 (wX8 E a o c_seed c_is c_sightOne c_sightOther c_sights c_pad c_padMany c_act c_which c_key c_other c_acts c_order c_digest c_tall c_had c_badAct c_badWhy c_alikeAct c_alikeTwo c_work c_isWorked c_trees c_from c_upTo c_shape c_kept c_isKept c_keptAt c_isWriting) [(1, .int l1), (2, .int l2), (3, .int l3), (4, .long l4), (6, .long l6), (8, .int l8)] 81 [] := by
  intro n
  induction n with
  | zero => intro l1 l2 l4 l6 l8 R h; exact no_some h
  | succ n ih =>
    intro l1 l2 l4 l6 l8 R h K
    rw [L_X8_deep_81] at h
    refine w_iload (pc2 := 83) G 5 rfl dX8_deep_81 rfl ?_
    refine w_iload_n (pc2 := 84) G 0 rfl dX8_deep_83 rfl rfl ?_
    refine w_icmp_ge (tgt := 134) (pc2 := 87) G dX8_deep_84 (by decide) rfl (fun cc => ?_) (fun cc => ?_)
    · replace h := (if_pos cc).symm.trans h
      cases h
      exact w_lv [2, 3, 4] rfl K
    · replace h := (if_neg cc).symm.trans h
      refine w_iload (pc2 := 89) G 5 rfl dX8_deep_87 rfl ?_
      refine w_iload_n (pc2 := 90) G 1 rfl dX8_deep_89 rfl rfl ?_
      obtain ⟨x1, h0, h⟩ := bs h
      have K_x1 : WW g E 10 0 0 (wX8 E a o c_seed c_is c_sightOne c_sightOther c_sights c_pad c_padMany c_act c_which c_key c_other c_acts c_order c_digest c_tall c_had c_badAct c_badWhy c_alikeAct c_alikeTwo c_work c_isWorked c_trees c_from c_upTo c_shape c_kept c_isKept c_keptAt c_isWriting) [(1, .int l1), (2, .int l2), (3, .int l3), (4, .long l4), (6, .long l6), (8, .int l8)] 104 [.int x1] := by
        clear h0
        refine w_istore (pc2 := 106) (lv2 := [(9, .int x1), (1, .int l1), (2, .int l2), (3, .int l3), (4, .long l4), (6, .long l6), (8, .int l8)]) G dX8_deep_104 (Nat.le_of_ble_eq_true rfl) rfl rfl ?_
        refine w_lload (pc2 := 108) G 5 rfl dX8_deep_106 rfl ?_
        refine w_iload (pc2 := 110) G 0 rfl dX8_deep_108 rfl ?_
        refine w_if_ne (tgt := 117) (pc2 := 113) G dX8_deep_110 (by decide) rfl (fun cc => ?_) (fun cc => ?_)
        · replace h := (if_neg cc).symm.trans h
          refine w_lload (pc2 := 119) G 4 rfl dX8_deep_117 rfl ?_
          refine w_iload (pc2 := 121) G 0 rfl dX8_deep_119 rfl ?_
          refine w_iconst (pc2 := 122) G dX8_deep_121 k_iconst_1 rfl ?_
          refine w_iadd (pc2 := 123) G dX8_deep_122 rfl ?_
          refine w_i2l (pc2 := 124) G dX8_deep_123 rfl ?_
          obtain ⟨v2, H_v2, h⟩ := bs h
          refine w_ldivo (pc2 := 125) G H_v2 dX8_deep_124 rfl ?_
          refine w_ladd (pc2 := 126) G dX8_deep_125 rfl ?_
          refine w_lstore (pc2 := 128) (lv2 := [(6, .long (l6 + v2)), (9, .int x1), (1, .int l1), (2, .int l2), (3, .int l3), (4, .long l4), (8, .int l8)]) G dX8_deep_126 (Nat.le_of_ble_eq_true rfl) rfl rfl ?_
          refine w_iinc (pc2 := 131) (lv2 := [(8, .int (l8 + (1 : Int32))), (6, .long (l6 + v2)), (9, .int x1), (1, .int l1), (2, .int l2), (3, .int l3), (4, .long l4)]) G 6 rfl dX8_deep_128 k_iconst_1 (Nat.le_of_ble_eq_true rfl) rfl rfl ?_
          refine w_goto (tgt := 81) G dX8_deep_131 (by decide) ?_
          exact w_lv [3, 4, 5, 6, 1, 0] rfl (ih _ _ _ _ _ _ h K)
        · replace h := (if_pos cc).symm.trans h
          refine w_lconst (pc2 := 114) G dX8_deep_113 k_lconst_0 rfl ?_
          refine w_goto (tgt := 125) G dX8_deep_114 (by decide) ?_
          refine w_ladd (pc2 := 126) G dX8_deep_125 rfl ?_
          refine w_lstore (pc2 := 128) (lv2 := [(6, .long (l6 + (0 : Int64))), (9, .int x1), (1, .int l1), (2, .int l2), (3, .int l3), (4, .long l4), (8, .int l8)]) G dX8_deep_126 (Nat.le_of_ble_eq_true rfl) rfl rfl ?_
          refine w_iinc (pc2 := 131) (lv2 := [(8, .int (l8 + (1 : Int32))), (6, .long (l6 + (0 : Int64))), (9, .int x1), (1, .int l1), (2, .int l2), (3, .int l3), (4, .long l4)]) G 6 rfl dX8_deep_128 k_iconst_1 (Nat.le_of_ble_eq_true rfl) rfl rfl ?_
          refine w_goto (tgt := 81) G dX8_deep_131 (by decide) ?_
          exact w_lv [3, 4, 5, 6, 1, 0] rfl (ih _ _ _ _ _ _ h K)
      replace h := h0
      clear h0
      refine w_icmp_ge (tgt := 100) (pc2 := 93) G dX8_deep_90 (by decide) rfl (fun cc => ?_) (fun cc => ?_)
      · replace h := (if_pos cc).symm.trans h
        refine w_iload (pc2 := 102) G 5 rfl dX8_deep_100 rfl ?_
        refine w_iload_n (pc2 := 103) G 1 rfl dX8_deep_102 rfl rfl ?_
        refine w_isub (pc2 := 104) G dX8_deep_103 rfl ?_
        cases h
        exact w_lv [0, 1, 2, 3, 4, 5] rfl K_x1
      · replace h := (if_neg cc).symm.trans h
        refine w_iload_n (pc2 := 94) G 1 rfl dX8_deep_93 rfl rfl ?_
        refine w_iload (pc2 := 96) G 5 rfl dX8_deep_94 rfl ?_
        refine w_isub (pc2 := 97) G dX8_deep_96 rfl ?_
        refine w_goto (tgt := 104) G dX8_deep_97 (by decide) ?_
        cases h
        exact w_lv [0, 1, 2, 3, 4, 5] rfl K_x1
set_option maxHeartbeats 4000000 in
set_option maxRecDepth 100000 in
theorem r_X8_deep {l : Launch} {E : EV} {a : Nat → Nat} {o : Nat} {c_seed : Int32} {c_is c_sightOne c_sightOther : Nat → Int32} {c_sights : Int32} {c_pad : Nat → Int32} {c_padMany : Int32} {c_act c_which c_key c_other : Nat → Int32} {c_acts : Int32} {c_order : Nat → Int32} {c_digest : Nat → Int64} {c_tall c_had : Nat → Int32} {c_badAct c_badWhy c_alikeAct c_alikeTwo c_work c_isWorked : Int32} {c_trees : Nat → Int64} {c_from c_upTo : Nat → Int32} {c_shape : Nat → Int64} {c_kept c_isKept : Nat → Int32} {c_keptAt c_isWriting : Int32} {l1 : Int32} {l2 : Int32} {l3 : Int32} {R : Int64} (h : f_X8_deep l1 l2 l3 = some R) : Ret1 l E yX8_deep cX8_deep 10 (some .long) 1 (wX8 E a o c_seed c_is c_sightOne c_sightOther c_sights c_pad c_padMany c_act c_which c_key c_other c_acts c_order c_digest c_tall c_had c_badAct c_badWhy c_alikeAct c_alikeTwo c_work c_isWorked c_trees c_from c_upTo c_shape c_kept c_isKept c_keptAt c_isWriting) [.ref (a o), .int l1, .int l2, .int l3] (some (.long R)) (wX8 E a o c_seed c_is c_sightOne c_sightOther c_sights c_pad c_padMany c_act c_which c_key c_other c_acts c_order c_digest c_tall c_had c_badAct c_badWhy c_alikeAct c_alikeTwo c_work c_isWorked c_trees c_from c_upTo c_shape c_kept c_isKept c_keptAt c_isWriting) := by
  refine Ret.intro (lv := [(0, .ref (a o)), (1, .int l1), (2, .int l2), (3, .int l3)]) (by decide) (Nat.le_of_ble_eq_true rfl) rfl ?_
  intro g hgl G hQ
  subst hgl
  rw [f_X8_deep] at h
  refine w_iload_n (pc2 := 1) G 1 rfl dX8_deep_0 rfl rfl ?_
  refine w_i2l (pc2 := 2) G dX8_deep_1 rfl ?_
  refine w_lconst (pc2 := 3) G dX8_deep_2 k_lconst_1 rfl ?_
  refine w_ldc2 (pc2 := 6) G wd_354 dX8_deep_3 rfl ?_
  obtain ⟨x1, H_x1, h⟩ := bs h
  refine w_cS0 (pc2 := 9) (As := [.long l1.toInt64, .long (1 : Int64), .long (20 : Int64)]) (rest := []) G koX8_68 (r_X8_in H_x1) (Nat.le_of_ble_eq_true rfl) rfl rfl (Nat.le_of_ble_eq_true rfl) ⟨Nat.zero_le _, Nat.zero_le _⟩ dX8_deep_6 rfl rfl ?_
  refine w_if_eq (tgt := 35) (pc2 := 12) G dX8_deep_9 (by decide) rfl (fun cc => ?_) (fun cc => ?_)
  · replace h := (if_pos cc).symm.trans h
    refine w_ldc2 (pc2 := 38) G wd_355 dX8_deep_35 rfl ?_
    cases h
    exact w_lret G hQ rfl ⟨rfl, rfl⟩ dX8_deep_38
  · replace h := (if_neg cc).symm.trans h
    refine w_iload_n (pc2 := 13) G 2 rfl dX8_deep_12 rfl rfl ?_
    refine w_i2l (pc2 := 14) G dX8_deep_13 rfl ?_
    refine w_lconst (pc2 := 15) G dX8_deep_14 k_lconst_0 rfl ?_
    refine w_iload_n (pc2 := 16) G 1 rfl dX8_deep_15 rfl rfl ?_
    refine w_iconst (pc2 := 17) G dX8_deep_16 k_iconst_1 rfl ?_
    refine w_isub (pc2 := 18) G dX8_deep_17 rfl ?_
    refine w_i2l (pc2 := 19) G dX8_deep_18 rfl ?_
    obtain ⟨x2, H_x2, h⟩ := bs h
    refine w_cS0 (pc2 := 22) (As := [.long l2.toInt64, .long (0 : Int64), .long ((l1 - (1 : Int32)).toInt64)]) (rest := []) G koX8_68 (r_X8_in H_x2) (Nat.le_of_ble_eq_true rfl) rfl rfl (Nat.le_of_ble_eq_true rfl) ⟨Nat.zero_le _, Nat.zero_le _⟩ dX8_deep_19 rfl rfl ?_
    refine w_if_eq (tgt := 35) (pc2 := 25) G dX8_deep_22 (by decide) rfl (fun cc => ?_) (fun cc => ?_)
    · replace h := (if_pos cc).symm.trans h
      refine w_ldc2 (pc2 := 38) G wd_355 dX8_deep_35 rfl ?_
      cases h
      exact w_lret G hQ rfl ⟨rfl, rfl⟩ dX8_deep_38
    · replace h := (if_neg cc).symm.trans h
      refine w_iload_n (pc2 := 26) G 3 rfl dX8_deep_25 rfl rfl ?_
      refine w_i2l (pc2 := 27) G dX8_deep_26 rfl ?_
      refine w_lconst (pc2 := 28) G dX8_deep_27 k_lconst_0 rfl ?_
      refine w_lconst (pc2 := 29) G dX8_deep_28 k_lconst_1 rfl ?_
      obtain ⟨x3, H_x3, h⟩ := bs h
      refine w_cS0 (pc2 := 32) (As := [.long l3.toInt64, .long (0 : Int64), .long (1 : Int64)]) (rest := []) G koX8_68 (r_X8_in H_x3) (Nat.le_of_ble_eq_true rfl) rfl rfl (Nat.le_of_ble_eq_true rfl) ⟨Nat.zero_le _, Nat.zero_le _⟩ dX8_deep_29 rfl rfl ?_
      refine w_if_ne (tgt := 39) (pc2 := 35) G dX8_deep_32 (by decide) rfl (fun cc => ?_) (fun cc => ?_)
      · replace h := (if_neg cc).symm.trans h
        refine w_lconst (pc2 := 40) G dX8_deep_39 k_lconst_1 rfl ?_
        refine w_lstore (pc2 := 42) (lv2 := [(4, .long (1 : Int64)), (0, .ref (a o)), (1, .int l1), (2, .int l2), (3, .int l3)]) G dX8_deep_40 (Nat.le_of_ble_eq_true rfl) rfl rfl ?_
        refine w_iconst (pc2 := 43) G dX8_deep_42 k_iconst_2 rfl ?_
        refine w_istore (pc2 := 45) (lv2 := [(6, .int (2 : Int32)), (4, .long (1 : Int64)), (0, .ref (a o)), (1, .int l1), (2, .int l2), (3, .int l3)]) G dX8_deep_43 (Nat.le_of_ble_eq_true rfl) rfl rfl ?_
        obtain ⟨x4, h0, h⟩ := bs h
        have K_x4 : WW g E 10 0 0 (wX8 E a o c_seed c_is c_sightOne c_sightOther c_sights c_pad c_padMany c_act c_which c_key c_other c_acts c_order c_digest c_tall c_had c_badAct c_badWhy c_alikeAct c_alikeTwo c_work c_isWorked c_trees c_from c_upTo c_shape c_kept c_isKept c_keptAt c_isWriting) [(1, .int l1), (2, .int l2), (3, .int l3), (4, .long x4)] 75 [] := by
          clear h0
          refine w_lconst (pc2 := 76) G dX8_deep_75 k_lconst_0 rfl ?_
          refine w_lstore (pc2 := 78) (lv2 := [(6, .long (0 : Int64)), (1, .int l1), (2, .int l2), (3, .int l3), (4, .long x4)]) G dX8_deep_76 (Nat.le_of_ble_eq_true rfl) rfl rfl ?_
          refine w_iconst (pc2 := 79) G dX8_deep_78 k_iconst_0 rfl ?_
          refine w_istore (pc2 := 81) (lv2 := [(8, .int (0 : Int32)), (6, .long (0 : Int64)), (1, .int l1), (2, .int l2), (3, .int l3), (4, .long x4)]) G dX8_deep_79 (Nat.le_of_ble_eq_true rfl) rfl rfl ?_
          obtain ⟨x5, h0, h⟩ := bs h
          have K_x5 : WW g E 10 0 0 (wX8 E a o c_seed c_is c_sightOne c_sightOther c_sights c_pad c_padMany c_act c_which c_key c_other c_acts c_order c_digest c_tall c_had c_badAct c_badWhy c_alikeAct c_alikeTwo c_work c_isWorked c_trees c_from c_upTo c_shape c_kept c_isKept c_keptAt c_isWriting) [(3, .int l3), (4, .long x4), (6, .long x5)] 134 [] := by
            clear h0
            refine w_lload (pc2 := 136) G 2 rfl dX8_deep_134 rfl ?_
            refine w_lload (pc2 := 138) G 1 rfl dX8_deep_136 rfl ?_
            obtain ⟨x6, H_x6, h⟩ := bs h
            refine w_cS0 (pc2 := 141) (As := [.long x5, .long x4]) (rest := []) G koX8_311 (r_X8_divisor H_x6) (Nat.le_of_ble_eq_true rfl) rfl rfl (Nat.le_of_ble_eq_true rfl) ⟨Nat.zero_le _, Nat.zero_le _⟩ dX8_deep_138 rfl rfl ?_
            refine w_lstore (pc2 := 143) (lv2 := [(8, .long x6), (3, .int l3), (4, .long x4), (6, .long x5)]) G dX8_deep_141 (Nat.le_of_ble_eq_true rfl) rfl rfl ?_
            refine w_iload_n (pc2 := 144) G 1 rfl dX8_deep_143 rfl rfl ?_
            refine w_if_ne (tgt := 155) (pc2 := 147) G dX8_deep_144 (by decide) rfl (fun cc => ?_) (fun cc => ?_)
            · replace h := (if_neg cc).symm.trans h
              refine w_lload (pc2 := 157) G 2 rfl dX8_deep_155 rfl ?_
              refine w_lload (pc2 := 159) G 0 rfl dX8_deep_157 rfl ?_
              obtain ⟨v7, H_v7, h⟩ := bs h
              refine w_ldivo (pc2 := 160) G H_v7 dX8_deep_159 rfl ?_
              cases h
              exact w_lret G hQ rfl ⟨rfl, rfl⟩ dX8_deep_160
            · replace h := (if_pos cc).symm.trans h
              refine w_lload (pc2 := 149) G 3 rfl dX8_deep_147 rfl ?_
              refine w_lload (pc2 := 151) G 0 rfl dX8_deep_149 rfl ?_
              obtain ⟨v8, H_v8, h⟩ := bs h
              refine w_ldivo (pc2 := 152) G H_v8 dX8_deep_151 rfl ?_
              refine w_goto (tgt := 160) G dX8_deep_152 (by decide) ?_
              cases h
              exact w_lret G hQ rfl ⟨rfl, rfl⟩ dX8_deep_160
          exact w_lv [2, 3, 4, 5, 1, 0] rfl (lp_X8_deep_81 G 20000 _ _ _ _ _ _ h0 (w_lv [0, 1, 2] rfl K_x5))
        exact w_lv [3, 4, 5, 1, 0] rfl (lp_X8_deep_45 G 20000 _ _ _ h0 (w_lv [0, 1, 2, 3] rfl K_x4))
      · replace h := (if_pos cc).symm.trans h
        refine w_ldc2 (pc2 := 38) G wd_355 dX8_deep_35 rfl ?_
        cases h
        exact w_lret G hQ rfl ⟨rfl, rfl⟩ dX8_deep_38

set_option maxHeartbeats 4000000 in
set_option maxRecDepth 100000 in
theorem r_X8_actBy {l : Launch} {E : EV}  {l0 : Int32} {l1 : Int32} {R : Int32} (h : f_X8_actBy l0 l1 = some R) : Ret1 l E yX8_actBy cX8_actBy 2 (some .int) 0 [] [.int l0, .int l1] (some (.int R)) [] := by
  refine Ret.intro (lv := [(0, .int l0), (1, .int l1)]) (by decide) (Nat.le_of_ble_eq_true rfl) rfl ?_
  intro g hgl G hQ
  subst hgl
  rw [f_X8_actBy] at h
  refine w_iload_n (pc2 := 1) G 0 rfl dX8_actBy_0 rfl rfl ?_
  refine w_iconst (pc2 := 2) G dX8_actBy_1 k_iconst_3 rfl ?_
  refine w_icmp_ge (tgt := 9) (pc2 := 5) G dX8_actBy_2 (by decide) rfl (fun cc => ?_) (fun cc => ?_)
  · replace h := (if_pos cc).symm.trans h
    refine w_iload_n (pc2 := 10) G 0 rfl dX8_actBy_9 rfl rfl ?_
    refine w_iconst (pc2 := 11) G dX8_actBy_10 k_iconst_5 rfl ?_
    refine w_icmp_ge (tgt := 18) (pc2 := 14) G dX8_actBy_11 (by decide) rfl (fun cc => ?_) (fun cc => ?_)
    · replace h := (if_pos cc).symm.trans h
      refine w_iload_n (pc2 := 19) G 0 rfl dX8_actBy_18 rfl rfl ?_
      refine w_iconst (pc2 := 20) G dX8_actBy_19 k_iconst_5 rfl ?_
      refine w_icmp_ne (tgt := 27) (pc2 := 23) G dX8_actBy_20 (by decide) rfl (fun cc => ?_) (fun cc => ?_)
      · replace h := (if_neg cc).symm.trans h
        refine w_iload_n (pc2 := 28) G 0 rfl dX8_actBy_27 rfl rfl ?_
        refine w_bipush (pc2 := 30) G dX8_actBy_28 k_bipush_6 rfl ?_
        refine w_icmp_ne (tgt := 50) (pc2 := 33) G dX8_actBy_30 (by decide) rfl (fun cc => ?_) (fun cc => ?_)
        · replace h := (if_neg cc).symm.trans h
          refine w_iload_n (pc2 := 51) G 1 rfl dX8_actBy_50 rfl rfl ?_
          refine w_iconst (pc2 := 52) G dX8_actBy_51 k_iconst_4 rfl ?_
          refine w_irem (pc2 := 53) G dX8_actBy_52 (by decide) rfl ?_
          refine w_if_ne (tgt := 61) (pc2 := 56) G dX8_actBy_53 (by decide) rfl (fun cc => ?_) (fun cc => ?_)
          · replace h := (if_neg cc).symm.trans h
            refine w_iconst (pc2 := 62) G dX8_actBy_61 k_iconst_4 rfl ?_
            cases h
            exact w_iret G hQ rfl ⟨rfl, rfl⟩ dX8_actBy_62
          · replace h := (if_pos cc).symm.trans h
            refine w_bipush (pc2 := 58) G dX8_actBy_56 k_bipush_7 rfl ?_
            refine w_goto (tgt := 62) G dX8_actBy_58 (by decide) ?_
            cases h
            exact w_iret G hQ rfl ⟨rfl, rfl⟩ dX8_actBy_62
        · replace h := (if_pos cc).symm.trans h
          refine w_iload_n (pc2 := 34) G 1 rfl dX8_actBy_33 rfl rfl ?_
          refine w_bipush (pc2 := 36) G dX8_actBy_34 k_bipush_16 rfl ?_
          refine w_idiv (pc2 := 37) G dX8_actBy_36 (by decide) rfl ?_
          refine w_iconst (pc2 := 38) G dX8_actBy_37 k_iconst_2 rfl ?_
          refine w_irem (pc2 := 39) G dX8_actBy_38 (by decide) rfl ?_
          refine w_if_ne (tgt := 46) (pc2 := 42) G dX8_actBy_39 (by decide) rfl (fun cc => ?_) (fun cc => ?_)
          · replace h := (if_neg cc).symm.trans h
            refine w_iconst (pc2 := 47) G dX8_actBy_46 k_iconst_5 rfl ?_
            refine w_goto (tgt := 62) G dX8_actBy_47 (by decide) ?_
            cases h
            exact w_iret G hQ rfl ⟨rfl, rfl⟩ dX8_actBy_62
          · replace h := (if_pos cc).symm.trans h
            refine w_iconst (pc2 := 43) G dX8_actBy_42 k_iconst_3 rfl ?_
            refine w_goto (tgt := 62) G dX8_actBy_43 (by decide) ?_
            cases h
            exact w_iret G hQ rfl ⟨rfl, rfl⟩ dX8_actBy_62
      · replace h := (if_pos cc).symm.trans h
        refine w_iconst (pc2 := 24) G dX8_actBy_23 k_iconst_2 rfl ?_
        refine w_goto (tgt := 62) G dX8_actBy_24 (by decide) ?_
        cases h
        exact w_iret G hQ rfl ⟨rfl, rfl⟩ dX8_actBy_62
    · replace h := (if_neg cc).symm.trans h
      refine w_iconst (pc2 := 15) G dX8_actBy_14 k_iconst_1 rfl ?_
      refine w_goto (tgt := 62) G dX8_actBy_15 (by decide) ?_
      cases h
      exact w_iret G hQ rfl ⟨rfl, rfl⟩ dX8_actBy_62
  · replace h := (if_neg cc).symm.trans h
    refine w_iconst (pc2 := 6) G dX8_actBy_5 k_iconst_0 rfl ?_
    refine w_goto (tgt := 62) G dX8_actBy_6 (by decide) ?_
    cases h
    exact w_iret G hQ rfl ⟨rfl, rfl⟩ dX8_actBy_62

set_option maxHeartbeats 4000000 in
set_option maxRecDepth 100000 in
theorem r_X8_drawn {l : Launch} {E : EV} {a : Nat → Nat} {o : Nat} {c_seed : Int32} {c_is c_sightOne c_sightOther : Nat → Int32} {c_sights : Int32} {c_pad : Nat → Int32} {c_padMany : Int32} {c_act c_which c_key c_other : Nat → Int32} {c_acts : Int32} {c_order : Nat → Int32} {c_digest : Nat → Int64} {c_tall c_had : Nat → Int32} {c_badAct c_badWhy c_alikeAct c_alikeTwo c_work c_isWorked : Int32} {c_trees : Nat → Int64} {c_from c_upTo : Nat → Int32} {c_shape : Nat → Int64} {c_kept c_isKept : Nat → Int32} {c_keptAt c_isWriting : Int32} {l1 : Int32} {l2 : Int32} {R : Int32 × (Nat → Int32)} (h : f_X8_drawn c_seed c_is l1 l2 = some R) : Ret1 l E yX8_drawn cX8_drawn 7 none 4 (wX8 E a o c_seed c_is c_sightOne c_sightOther c_sights c_pad c_padMany c_act c_which c_key c_other c_acts c_order c_digest c_tall c_had c_badAct c_badWhy c_alikeAct c_alikeTwo c_work c_isWorked c_trees c_from c_upTo c_shape c_kept c_isKept c_keptAt c_isWriting) [.ref (a o), .int l1, .int l2] none (wX8 E a o R.1 R.2 c_sightOne c_sightOther c_sights c_pad c_padMany c_act c_which c_key c_other c_acts c_order c_digest c_tall c_had c_badAct c_badWhy c_alikeAct c_alikeTwo c_work c_isWorked c_trees c_from c_upTo c_shape c_kept c_isKept c_keptAt c_isWriting) := by
  refine Ret.intro (lv := [(0, .ref (a o)), (1, .int l1), (2, .int l2)]) (by decide) (Nat.le_of_ble_eq_true rfl) rfl ?_
  intro g hgl G hQ
  subst hgl
  rw [f_X8_drawn] at h
  refine w_iload_n (pc2 := 1) G 1 rfl dX8_drawn_0 rfl rfl ?_
  refine w_iload_n (pc2 := 2) G 2 rfl dX8_drawn_1 rfl rfl ?_
  obtain ⟨x1, H_x1, h⟩ := bs h
  refine w_cS0 (pc2 := 5) (As := [.int l1, .int l2]) (rest := []) G koX8_315 (r_X8_actBy H_x1) (Nat.le_of_ble_eq_true rfl) rfl rfl (Nat.le_of_ble_eq_true rfl) ⟨Nat.zero_le _, Nat.zero_le _⟩ dX8_drawn_2 rfl rfl ?_
  refine w_istore_n (pc2 := 6) (lv2 := [(3, .int x1), (0, .ref (a o)), (1, .int l1), (2, .int l2)]) G dX8_drawn_5 rfl (Nat.le_of_ble_eq_true rfl) rfl rfl ?_
  refine w_iload_n (pc2 := 7) G 2 rfl dX8_drawn_6 rfl rfl ?_
  refine w_iconst (pc2 := 8) G dX8_drawn_7 k_iconst_5 rfl ?_
  obtain ⟨x2, h0, h⟩ := bs h
  have K_x2 : WW g E 7 0 0 (wX8 E a o c_seed c_is c_sightOne c_sightOther c_sights c_pad c_padMany c_act c_which c_key c_other c_acts c_order c_digest c_tall c_had c_badAct c_badWhy c_alikeAct c_alikeTwo c_work c_isWorked c_trees c_from c_upTo c_shape c_kept c_isKept c_keptAt c_isWriting) [(3, .int x1), (0, .ref (a o)), (1, .int l1), (2, .int l2)] 37 [.int x2] := by
    clear h0
    refine w_istore (pc2 := 39) (lv2 := [(4, .int x2), (3, .int x1), (0, .ref (a o)), (1, .int l1), (2, .int l2)]) G dX8_drawn_37 (Nat.le_of_ble_eq_true rfl) rfl rfl ?_
    refine w_iload_n (pc2 := 40) G 3 rfl dX8_drawn_39 rfl rfl ?_
    refine w_iconst (pc2 := 41) G dX8_drawn_40 k_iconst_5 rfl ?_
    obtain ⟨x3, h0, h⟩ := bs h
    have K_x3 : WW g E 7 0 0 (wX8 E a o c_seed c_is c_sightOne c_sightOther c_sights c_pad c_padMany c_act c_which c_key c_other c_acts c_order c_digest c_tall c_had c_badAct c_badWhy c_alikeAct c_alikeTwo c_work c_isWorked c_trees c_from c_upTo c_shape c_kept c_isKept c_keptAt c_isWriting) [(4, .int x2), (3, .int x1), (0, .ref (a o)), (1, .int l1), (2, .int l2)] 57 [.int x3] := by
      clear h0
      refine w_istore (pc2 := 59) (lv2 := [(5, .int x3), (4, .int x2), (3, .int x1), (0, .ref (a o)), (1, .int l1), (2, .int l2)]) G dX8_drawn_57 (Nat.le_of_ble_eq_true rfl) rfl rfl ?_
      refine w_iload_n (pc2 := 60) G 4 rfl dX8_drawn_59 rfl rfl ?_
      refine w_iconst (pc2 := 61) G dX8_drawn_60 k_iconst_5 rfl ?_
      obtain ⟨x4, h0, h⟩ := bs h
      have K_x4 : WW g E 7 0 0 (wX8 E a o c_seed c_is c_sightOne c_sightOther c_sights c_pad c_padMany c_act c_which c_key c_other c_acts c_order c_digest c_tall c_had c_badAct c_badWhy c_alikeAct c_alikeTwo c_work c_isWorked c_trees c_from c_upTo c_shape c_kept c_isKept c_keptAt c_isWriting) [(5, .int x3), (4, .int x2), (3, .int x1), (0, .ref (a o))] 94 [.int x4] := by
        clear h0
        refine w_istore (pc2 := 96) (lv2 := [(6, .int x4), (5, .int x3), (4, .int x2), (3, .int x1), (0, .ref (a o))]) G dX8_drawn_94 (Nat.le_of_ble_eq_true rfl) rfl rfl ?_
        refine w_aload_n (pc2 := 97) G 4 rfl dX8_drawn_96 rfl rfl ?_
        refine w_iload_n (pc2 := 98) G 3 rfl dX8_drawn_97 rfl rfl ?_
        refine w_iload (pc2 := 100) G 2 rfl dX8_drawn_98 rfl ?_
        refine w_iload (pc2 := 102) G 1 rfl dX8_drawn_100 rfl ?_
        refine w_iload (pc2 := 104) G 0 rfl dX8_drawn_102 rfl ?_
        obtain ⟨x5, H_x5, h⟩ := bs h
        refine w_cV0 (pc2 := 107) (ws2 := (wX8 E a o c_seed c_is c_sightOne c_sightOther c_sights c_pad c_padMany c_act c_which c_key c_other c_acts c_order c_digest c_tall c_had c_badAct c_badWhy c_alikeAct c_alikeTwo c_work c_isWorked c_trees c_from c_upTo c_shape c_kept c_isKept c_keptAt c_isWriting)) (As := [.int x1, .int x2, .int x3, .int x4]) (rest := []) G koX8_234 (r_X8_whyNot H_x5) (Nat.le_of_ble_eq_true rfl) 8 rfl rfl rfl rfl (Nat.le_of_ble_eq_true rfl) ⟨Nat.zero_le _, Nat.zero_le _⟩ dX8_drawn_104 rfl rfl ?_
        refine w_if_ne (tgt := 121) (pc2 := 110) G dX8_drawn_107 (by decide) rfl (fun cc => ?_) (fun cc => ?_)
        · replace h := (if_neg cc).symm.trans h
          cases h
          exact w_vret G hQ rfl ⟨rfl, rfl⟩ dX8_drawn_121
        · replace h := (if_pos cc).symm.trans h
          refine w_aload_n (pc2 := 111) G 4 rfl dX8_drawn_110 rfl rfl ?_
          refine w_iload_n (pc2 := 112) G 3 rfl dX8_drawn_111 rfl rfl ?_
          refine w_iload (pc2 := 114) G 2 rfl dX8_drawn_112 rfl ?_
          refine w_iload (pc2 := 116) G 1 rfl dX8_drawn_114 rfl ?_
          refine w_iload (pc2 := 118) G 0 rfl dX8_drawn_116 rfl ?_
          obtain ⟨x6, H_x6, h⟩ := bs h
          refine w_cV0 (pc2 := 121) (ws2 := (wX8 E a o x6.1 x6.2 c_sightOne c_sightOther c_sights c_pad c_padMany c_act c_which c_key c_other c_acts c_order c_digest c_tall c_had c_badAct c_badWhy c_alikeAct c_alikeTwo c_work c_isWorked c_trees c_from c_upTo c_shape c_kept c_isKept c_keptAt c_isWriting)) (As := [.int x1, .int x2, .int x3, .int x4]) (rest := []) G koX8_210 (r_X8_happen H_x6) (Nat.le_of_ble_eq_true rfl) 8 rfl rfl rfl rfl (Nat.le_of_ble_eq_true rfl) ⟨Nat.zero_le _, Nat.zero_le _⟩ dX8_drawn_118 rfl rfl ?_
          cases h
          exact w_vret G hQ rfl ⟨rfl, rfl⟩ dX8_drawn_121
      replace h := h0
      clear h0
      refine w_icmp_ne (tgt := 74) (pc2 := 64) G dX8_drawn_61 (by decide) rfl (fun cc => ?_) (fun cc => ?_)
      · replace h := (if_neg cc).symm.trans h
        refine w_iload_n (pc2 := 75) G 4 rfl dX8_drawn_74 rfl rfl ?_
        refine w_bipush (pc2 := 77) G dX8_drawn_75 k_bipush_6 rfl ?_
        refine w_icmp_ne (tgt := 88) (pc2 := 80) G dX8_drawn_77 (by decide) rfl (fun cc => ?_) (fun cc => ?_)
        · replace h := (if_neg cc).symm.trans h
          refine w_iload_n (pc2 := 89) G 5 rfl dX8_drawn_88 rfl rfl ?_
          refine w_bipush (pc2 := 91) G dX8_drawn_89 k_bipush_16 rfl ?_
          refine w_idiv (pc2 := 92) G dX8_drawn_91 (by decide) rfl ?_
          refine w_iconst (pc2 := 93) G dX8_drawn_92 k_iconst_4 rfl ?_
          refine w_irem (pc2 := 94) G dX8_drawn_93 (by decide) rfl ?_
          cases h
          exact w_lv [0, 1, 2, 3] rfl K_x4
        · replace h := (if_pos cc).symm.trans h
          refine w_iload_n (pc2 := 81) G 5 rfl dX8_drawn_80 rfl rfl ?_
          refine w_iconst (pc2 := 82) G dX8_drawn_81 k_iconst_4 rfl ?_
          refine w_idiv (pc2 := 83) G dX8_drawn_82 (by decide) rfl ?_
          refine w_iconst (pc2 := 84) G dX8_drawn_83 k_iconst_4 rfl ?_
          refine w_irem (pc2 := 85) G dX8_drawn_84 (by decide) rfl ?_
          refine w_goto (tgt := 94) G dX8_drawn_85 (by decide) ?_
          cases h
          exact w_lv [0, 1, 2, 3] rfl K_x4
      · replace h := (if_pos cc).symm.trans h
        refine w_iload_n (pc2 := 65) G 5 rfl dX8_drawn_64 rfl rfl ?_
        refine w_sipush (pc2 := 68) G dX8_drawn_65 k_sipush_200 rfl ?_
        refine w_idiv (pc2 := 69) G dX8_drawn_68 (by decide) rfl ?_
        refine w_iconst (pc2 := 70) G dX8_drawn_69 k_iconst_4 rfl ?_
        refine w_irem (pc2 := 71) G dX8_drawn_70 (by decide) rfl ?_
        refine w_goto (tgt := 94) G dX8_drawn_71 (by decide) ?_
        cases h
        exact w_lv [0, 1, 2, 3] rfl K_x4
    replace h := h0
    clear h0
    refine w_icmp_ge (tgt := 51) (pc2 := 44) G dX8_drawn_41 (by decide) rfl (fun cc => ?_) (fun cc => ?_)
    · replace h := (if_pos cc).symm.trans h
      refine w_iload_n (pc2 := 52) G 4 rfl dX8_drawn_51 rfl rfl ?_
      refine w_iconst (pc2 := 53) G dX8_drawn_52 k_iconst_4 rfl ?_
      refine w_idiv (pc2 := 54) G dX8_drawn_53 (by decide) rfl ?_
      refine w_bipush (pc2 := 56) G dX8_drawn_54 k_bipush_50 rfl ?_
      refine w_irem (pc2 := 57) G dX8_drawn_56 (by decide) rfl ?_
      cases h
      exact w_lv [0, 1, 2, 3, 4] rfl K_x3
    · replace h := (if_neg cc).symm.trans h
      refine w_iload_n (pc2 := 45) G 4 rfl dX8_drawn_44 rfl rfl ?_
      refine w_bipush (pc2 := 47) G dX8_drawn_45 k_bipush_50 rfl ?_
      refine w_irem (pc2 := 48) G dX8_drawn_47 (by decide) rfl ?_
      refine w_goto (tgt := 57) G dX8_drawn_48 (by decide) ?_
      cases h
      exact w_lv [0, 1, 2, 3, 4] rfl K_x3
  replace h := h0
  clear h0
  refine w_icmp_ge (tgt := 20) (pc2 := 11) G dX8_drawn_8 (by decide) rfl (fun cc => ?_) (fun cc => ?_)
  · replace h := (if_pos cc).symm.trans h
    refine w_iload_n (pc2 := 21) G 2 rfl dX8_drawn_20 rfl rfl ?_
    refine w_bipush (pc2 := 23) G dX8_drawn_21 k_bipush_7 rfl ?_
    refine w_icmp_ne (tgt := 34) (pc2 := 26) G dX8_drawn_23 (by decide) rfl (fun cc => ?_) (fun cc => ?_)
    · replace h := (if_neg cc).symm.trans h
      refine w_iload_n (pc2 := 35) G 3 rfl dX8_drawn_34 rfl rfl ?_
      refine w_iconst (pc2 := 36) G dX8_drawn_35 k_iconst_4 rfl ?_
      refine w_irem (pc2 := 37) G dX8_drawn_36 (by decide) rfl ?_
      cases h
      exact w_lv [0, 1, 2, 3] rfl K_x2
    · replace h := (if_pos cc).symm.trans h
      refine w_iload_n (pc2 := 27) G 3 rfl dX8_drawn_26 rfl rfl ?_
      refine w_iconst (pc2 := 28) G dX8_drawn_27 k_iconst_4 rfl ?_
      refine w_idiv (pc2 := 29) G dX8_drawn_28 (by decide) rfl ?_
      refine w_iconst (pc2 := 30) G dX8_drawn_29 k_iconst_4 rfl ?_
      refine w_irem (pc2 := 31) G dX8_drawn_30 (by decide) rfl ?_
      refine w_goto (tgt := 37) G dX8_drawn_31 (by decide) ?_
      cases h
      exact w_lv [0, 1, 2, 3] rfl K_x2
  · replace h := (if_neg cc).symm.trans h
    refine w_iload_n (pc2 := 12) G 3 rfl dX8_drawn_11 rfl rfl ?_
    refine w_bipush (pc2 := 14) G dX8_drawn_12 k_bipush_50 rfl ?_
    refine w_idiv (pc2 := 15) G dX8_drawn_14 (by decide) rfl ?_
    refine w_iconst (pc2 := 16) G dX8_drawn_15 k_iconst_4 rfl ?_
    refine w_irem (pc2 := 17) G dX8_drawn_16 (by decide) rfl ?_
    refine w_goto (tgt := 37) G dX8_drawn_17 (by decide) ?_
    cases h
    exact w_lv [0, 1, 2, 3] rfl K_x2

set_option maxHeartbeats 4000000 in
set_option maxRecDepth 100000 in
theorem lp_X8_run_49 {g : CX} {E : EV} {a : Nat → Nat} {o : Nat} {c_sightOne c_sightOther : Nat → Int32} {c_sights : Int32} {c_pad : Nat → Int32} {c_padMany : Int32} {c_act c_which c_key c_other : Nat → Int32} {c_acts : Int32} {c_order : Nat → Int32} {c_digest : Nat → Int64} {c_tall c_had : Nat → Int32} {c_badAct c_badWhy c_alikeAct c_alikeTwo c_work c_isWorked : Int32} {c_trees : Nat → Int64} {c_from c_upTo : Nat → Int32} {c_shape : Nat → Int64} {c_kept c_isKept : Nat → Int32} {c_keptAt c_isWriting : Int32} {l3 : Int32} (G : GG g E RX8 cX8_run 6 (some .int) 6 0 0) : ∀ (n : Nat) (c_seed : Int32) (c_is : Nat → Int32) (l2 : Int32) (l4 : Int32) (l5 : Int32) (R : Int32 × (Nat → Int32)), L_X8_run_49 n c_seed c_is l2 l4 l5 = some R → WW g E 6 0 0 (wX8 E a o R.1 R.2 c_sightOne c_sightOther c_sights c_pad c_padMany c_act c_which c_key c_other c_acts c_order c_digest c_tall c_had c_badAct c_badWhy c_alikeAct c_alikeTwo c_work c_isWorked c_trees c_from c_upTo c_shape c_kept c_isKept c_keptAt c_isWriting) [(0, .ref (a o)), (3, .int l3)] 93 [] → WW g E 6 0 0 (wX8 E a o c_seed c_is c_sightOne c_sightOther c_sights c_pad c_padMany c_act c_which c_key c_other c_acts c_order c_digest c_tall c_had c_badAct c_badWhy c_alikeAct c_alikeTwo c_work c_isWorked c_trees c_from c_upTo c_shape c_kept c_isKept c_keptAt c_isWriting) [(0, .ref (a o)), (2, .int l2), (3, .int l3), (4, .int l4), (5, .int l5)] 49 [] := by
  intro n
  induction n with
  | zero => intro c_seed c_is l2 l4 l5 R h; exact no_some h
  | succ n ih =>
    intro c_seed c_is l2 l4 l5 R h K
    rw [L_X8_run_49] at h
    refine w_iload (pc2 := 51) G 4 rfl dX8_run_49 rfl ?_
    refine w_iload_n (pc2 := 52) G 1 rfl dX8_run_51 rfl rfl ?_
    refine w_icmp_ge (tgt := 93) (pc2 := 55) G dX8_run_52 (by decide) rfl (fun cc => ?_) (fun cc => ?_)
    · replace h := (if_pos cc).symm.trans h
      cases h
      exact w_lv [0, 2] rfl K
    · replace h := (if_neg cc).symm.trans h
      refine w_ldc2 (pc2 := 58) G wd_361 dX8_run_55 rfl ?_
      refine w_iload (pc2 := 60) G 3 rfl dX8_run_58 rfl ?_
      refine w_i2l (pc2 := 61) G dX8_run_60 rfl ?_
      refine w_lmul (pc2 := 62) G dX8_run_61 rfl ?_
      refine w_ldc2 (pc2 := 65) G wd_362 dX8_run_62 rfl ?_
      refine w_ladd (pc2 := 66) G dX8_run_65 rfl ?_
      refine w_ldc2 (pc2 := 69) G wd_363 dX8_run_66 rfl ?_
      refine w_lrem (pc2 := 70) G dX8_run_69 (by decide) rfl ?_
      refine w_l2i (pc2 := 71) G dX8_run_70 rfl ?_
      refine w_istore (pc2 := 73) (lv2 := [(4, .int (((((75 : Int64) * l4.toInt64) + (74 : Int64)) - (((75 : Int64) * l4.toInt64) + (74 : Int64)) / (65537 : Int64) * (65537 : Int64)).toInt32)), (0, .ref (a o)), (2, .int l2), (3, .int l3), (5, .int l5)]) G dX8_run_71 (Nat.le_of_ble_eq_true rfl) rfl rfl ?_
      refine w_aload_n (pc2 := 74) G 1 rfl dX8_run_73 rfl rfl ?_
      refine w_iload (pc2 := 76) G 0 rfl dX8_run_74 rfl ?_
      refine w_bipush (pc2 := 78) G dX8_run_76 k_bipush_8 rfl ?_
      refine w_irem (pc2 := 79) G dX8_run_78 (by decide) rfl ?_
      refine w_iload (pc2 := 81) G 0 rfl dX8_run_79 rfl ?_
      refine w_bipush (pc2 := 83) G dX8_run_81 k_bipush_8 rfl ?_
      refine w_idiv (pc2 := 84) G dX8_run_83 (by decide) rfl ?_
      obtain ⟨x1, H_x1, h⟩ := bs h
      refine w_cV0 (pc2 := 87) (ws2 := (wX8 E a o x1.1 x1.2 c_sightOne c_sightOther c_sights c_pad c_padMany c_act c_which c_key c_other c_acts c_order c_digest c_tall c_had c_badAct c_badWhy c_alikeAct c_alikeTwo c_work c_isWorked c_trees c_from c_upTo c_shape c_kept c_isKept c_keptAt c_isWriting)) (As := [.int (((((75 : Int64) * l4.toInt64) + (74 : Int64)) - (((75 : Int64) * l4.toInt64) + (74 : Int64)) / (65537 : Int64) * (65537 : Int64)).toInt32 - ((((75 : Int64) * l4.toInt64) + (74 : Int64)) - (((75 : Int64) * l4.toInt64) + (74 : Int64)) / (65537 : Int64) * (65537 : Int64)).toInt32 / (8 : Int32) * (8 : Int32)), .int (((((75 : Int64) * l4.toInt64) + (74 : Int64)) - (((75 : Int64) * l4.toInt64) + (74 : Int64)) / (65537 : Int64) * (65537 : Int64)).toInt32 / (8 : Int32))]) (rest := []) G koX8_326 (r_X8_drawn H_x1) (Nat.le_of_ble_eq_true rfl) 8 rfl rfl rfl rfl (Nat.le_of_ble_eq_true rfl) ⟨Nat.zero_le _, Nat.zero_le _⟩ dX8_run_84 rfl rfl ?_
      refine w_iinc (pc2 := 90) (lv2 := [(5, .int (l5 + (1 : Int32))), (4, .int (((((75 : Int64) * l4.toInt64) + (74 : Int64)) - (((75 : Int64) * l4.toInt64) + (74 : Int64)) / (65537 : Int64) * (65537 : Int64)).toInt32)), (0, .ref (a o)), (2, .int l2), (3, .int l3)]) G 4 rfl dX8_run_87 k_iconst_1 (Nat.le_of_ble_eq_true rfl) rfl rfl ?_
      refine w_goto (tgt := 49) G dX8_run_90 (by decide) ?_
      exact w_lv [2, 3, 4, 1, 0] rfl (ih _ _ _ _ _ _ h K)
set_option maxHeartbeats 4000000 in
set_option maxRecDepth 100000 in
theorem r_X8_run {l : Launch} {E : EV} {a : Nat → Nat} {o : Nat} {c_seed : Int32} {c_is c_sightOne c_sightOther : Nat → Int32} {c_sights : Int32} {c_pad : Nat → Int32} {c_padMany : Int32} {c_act c_which c_key c_other : Nat → Int32} {c_acts : Int32} {c_order : Nat → Int32} {c_digest : Nat → Int64} {c_tall c_had : Nat → Int32} {c_badAct c_badWhy c_alikeAct c_alikeTwo c_work c_isWorked : Int32} {c_trees : Nat → Int64} {c_from c_upTo : Nat → Int32} {c_shape : Nat → Int64} {c_kept c_isKept : Nat → Int32} {c_keptAt c_isWriting : Int32} {l1 : Int32} {l2 : Int32} {l3 : Int32} {R : Int32 × Int32 × (Nat → Int32) × (Nat → Int32) × (Nat → Int64) × (Nat → Int32) × (Nat → Int32)} (h : f_X8_run c_seed c_is c_order c_digest c_tall c_had l1 l2 l3 = some R) : Ret1 l E yX8_run cX8_run 6 (some .int) 6 (wX8 E a o c_seed c_is c_sightOne c_sightOther c_sights c_pad c_padMany c_act c_which c_key c_other c_acts c_order c_digest c_tall c_had c_badAct c_badWhy c_alikeAct c_alikeTwo c_work c_isWorked c_trees c_from c_upTo c_shape c_kept c_isKept c_keptAt c_isWriting) [.ref (a o), .int l1, .int l2, .int l3] (some (.int R.1)) (wX8 E a o R.2.1 R.2.2.1 c_sightOne c_sightOther c_sights c_pad c_padMany c_act c_which c_key c_other c_acts R.2.2.2.1 R.2.2.2.2.1 R.2.2.2.2.2.1 R.2.2.2.2.2.2 c_badAct c_badWhy c_alikeAct c_alikeTwo c_work c_isWorked c_trees c_from c_upTo c_shape c_kept c_isKept c_keptAt c_isWriting) := by
  refine Ret.intro (lv := [(0, .ref (a o)), (1, .int l1), (2, .int l2), (3, .int l3)]) (by decide) (Nat.le_of_ble_eq_true rfl) rfl ?_
  intro g hgl G hQ
  subst hgl
  rw [f_X8_run] at h
  refine w_iload_n (pc2 := 1) G 1 rfl dX8_run_0 rfl rfl ?_
  refine w_i2l (pc2 := 2) G dX8_run_1 rfl ?_
  refine w_lconst (pc2 := 3) G dX8_run_2 k_lconst_0 rfl ?_
  refine w_ldc2 (pc2 := 6) G wd_194 dX8_run_3 rfl ?_
  obtain ⟨x1, H_x1, h⟩ := bs h
  refine w_cS0 (pc2 := 9) (As := [.long l1.toInt64, .long (0 : Int64), .long (9999 : Int64)]) (rest := []) G koX8_68 (r_X8_in H_x1) (Nat.le_of_ble_eq_true rfl) rfl rfl (Nat.le_of_ble_eq_true rfl) ⟨Nat.zero_le _, Nat.zero_le _⟩ dX8_run_6 rfl rfl ?_
  refine w_if_eq (tgt := 36) (pc2 := 12) G dX8_run_9 (by decide) rfl (fun cc => ?_) (fun cc => ?_)
  · replace h := (if_pos cc).symm.trans h
    refine w_bipush (pc2 := 38) G dX8_run_36 k_bipush_m2 rfl ?_
    cases h
    exact w_iret G hQ rfl ⟨rfl, rfl⟩ dX8_run_38
  · replace h := (if_neg cc).symm.trans h
    refine w_iload_n (pc2 := 13) G 2 rfl dX8_run_12 rfl rfl ?_
    refine w_i2l (pc2 := 14) G dX8_run_13 rfl ?_
    refine w_lconst (pc2 := 15) G dX8_run_14 k_lconst_1 rfl ?_
    refine w_ldc2 (pc2 := 18) G wd_360 dX8_run_15 rfl ?_
    obtain ⟨x2, H_x2, h⟩ := bs h
    refine w_cS0 (pc2 := 21) (As := [.long l2.toInt64, .long (1 : Int64), .long (99 : Int64)]) (rest := []) G koX8_68 (r_X8_in H_x2) (Nat.le_of_ble_eq_true rfl) rfl rfl (Nat.le_of_ble_eq_true rfl) ⟨Nat.zero_le _, Nat.zero_le _⟩ dX8_run_18 rfl rfl ?_
    refine w_if_eq (tgt := 36) (pc2 := 24) G dX8_run_21 (by decide) rfl (fun cc => ?_) (fun cc => ?_)
    · replace h := (if_pos cc).symm.trans h
      refine w_bipush (pc2 := 38) G dX8_run_36 k_bipush_m2 rfl ?_
      cases h
      exact w_iret G hQ rfl ⟨rfl, rfl⟩ dX8_run_38
    · replace h := (if_neg cc).symm.trans h
      refine w_iload_n (pc2 := 25) G 3 rfl dX8_run_24 rfl rfl ?_
      refine w_i2l (pc2 := 26) G dX8_run_25 rfl ?_
      refine w_lconst (pc2 := 27) G dX8_run_26 k_lconst_0 rfl ?_
      refine w_ldc2 (pc2 := 30) G wd_310 dX8_run_27 rfl ?_
      obtain ⟨x3, H_x3, h⟩ := bs h
      refine w_cS0 (pc2 := 33) (As := [.long l3.toInt64, .long (0 : Int64), .long (2 : Int64)]) (rest := []) G koX8_68 (r_X8_in H_x3) (Nat.le_of_ble_eq_true rfl) rfl rfl (Nat.le_of_ble_eq_true rfl) ⟨Nat.zero_le _, Nat.zero_le _⟩ dX8_run_30 rfl rfl ?_
      refine w_if_ne (tgt := 39) (pc2 := 36) G dX8_run_33 (by decide) rfl (fun cc => ?_) (fun cc => ?_)
      · replace h := (if_neg cc).symm.trans h
        refine w_aload_n (pc2 := 40) G 0 rfl dX8_run_39 rfl rfl ?_
        obtain ⟨x4, H_x4, h⟩ := bs h
        refine w_cV0 (pc2 := 43) (ws2 := (wX8 E a o c_seed c_is c_sightOne c_sightOther c_sights c_pad c_padMany c_act c_which c_key c_other c_acts c_order c_digest c_tall x4 c_badAct c_badWhy c_alikeAct c_alikeTwo c_work c_isWorked c_trees c_from c_upTo c_shape c_kept c_isKept c_keptAt c_isWriting)) (As := []) (rest := []) G koX8_242 (r_X8_keepNow H_x4) (Nat.le_of_ble_eq_true rfl) 8 rfl rfl rfl rfl (Nat.le_of_ble_eq_true rfl) ⟨Nat.zero_le _, Nat.zero_le _⟩ dX8_run_40 rfl rfl ?_
        refine w_iload_n (pc2 := 44) G 1 rfl dX8_run_43 rfl rfl ?_
        refine w_istore (pc2 := 46) (lv2 := [(4, .int l1), (0, .ref (a o)), (1, .int l1), (2, .int l2), (3, .int l3)]) G dX8_run_44 (Nat.le_of_ble_eq_true rfl) rfl rfl ?_
        refine w_iconst (pc2 := 47) G dX8_run_46 k_iconst_0 rfl ?_
        refine w_istore (pc2 := 49) (lv2 := [(5, .int (0 : Int32)), (4, .int l1), (0, .ref (a o)), (1, .int l1), (2, .int l2), (3, .int l3)]) G dX8_run_47 (Nat.le_of_ble_eq_true rfl) rfl rfl ?_
        obtain ⟨x5, h0, h⟩ := bs h
        have K_x5 : WW g E 6 0 0 (wX8 E a o x5.1 x5.2 c_sightOne c_sightOther c_sights c_pad c_padMany c_act c_which c_key c_other c_acts c_order c_digest c_tall x4 c_badAct c_badWhy c_alikeAct c_alikeTwo c_work c_isWorked c_trees c_from c_upTo c_shape c_kept c_isKept c_keptAt c_isWriting) [(0, .ref (a o)), (3, .int l3)] 93 [] := by
          clear h0
          refine w_aload_n (pc2 := 94) G 0 rfl dX8_run_93 rfl rfl ?_
          refine w_iconst (pc2 := 95) G dX8_run_94 k_iconst_0 rfl ?_
          obtain ⟨x6, H_x6, h⟩ := bs h
          refine w_cV0 (pc2 := 98) (ws2 := (wX8 E a o x5.1 x5.2 c_sightOne c_sightOther c_sights c_pad c_padMany c_act c_which c_key c_other c_acts c_order c_digest c_tall x4 c_badAct c_badWhy c_alikeAct c_alikeTwo c_work c_isWorked c_trees c_from c_upTo c_shape c_kept c_isKept c_keptAt c_isWriting)) (As := [.int (0 : Int32)]) (rest := []) G koX8_99 (r_X8_many H_x6) (Nat.le_of_ble_eq_true rfl) 8 rfl rfl rfl rfl (Nat.le_of_ble_eq_true rfl) ⟨Nat.zero_le _, Nat.zero_le _⟩ dX8_run_95 rfl rfl ?_
          refine w_aload_n (pc2 := 99) G 0 rfl dX8_run_98 rfl rfl ?_
          refine w_iconst (pc2 := 100) G dX8_run_99 k_iconst_1 rfl ?_
          obtain ⟨x7, H_x7, h⟩ := bs h
          refine w_cV0 (pc2 := 103) (ws2 := (wX8 E a o x5.1 x5.2 c_sightOne c_sightOther c_sights c_pad c_padMany c_act c_which c_key c_other c_acts c_order c_digest c_tall x4 c_badAct c_badWhy c_alikeAct c_alikeTwo c_work c_isWorked c_trees c_from c_upTo c_shape c_kept c_isKept c_keptAt c_isWriting)) (As := [.int (1 : Int32)]) (rest := [.int x6]) G koX8_99 (r_X8_many H_x7) (Nat.le_of_ble_eq_true rfl) 8 rfl rfl rfl rfl (Nat.le_of_ble_eq_true rfl) ⟨Nat.zero_le _, Nat.zero_le _⟩ dX8_run_100 rfl rfl ?_
          refine w_iadd (pc2 := 104) G dX8_run_103 rfl ?_
          refine w_aload_n (pc2 := 105) G 0 rfl dX8_run_104 rfl rfl ?_
          refine w_iconst (pc2 := 106) G dX8_run_105 k_iconst_2 rfl ?_
          obtain ⟨x8, H_x8, h⟩ := bs h
          refine w_cV0 (pc2 := 109) (ws2 := (wX8 E a o x5.1 x5.2 c_sightOne c_sightOther c_sights c_pad c_padMany c_act c_which c_key c_other c_acts c_order c_digest c_tall x4 c_badAct c_badWhy c_alikeAct c_alikeTwo c_work c_isWorked c_trees c_from c_upTo c_shape c_kept c_isKept c_keptAt c_isWriting)) (As := [.int (2 : Int32)]) (rest := [.int (x6 + x7)]) G koX8_99 (r_X8_many H_x8) (Nat.le_of_ble_eq_true rfl) 8 rfl rfl rfl rfl (Nat.le_of_ble_eq_true rfl) ⟨Nat.zero_le _, Nat.zero_le _⟩ dX8_run_106 rfl rfl ?_
          refine w_iadd (pc2 := 110) G dX8_run_109 rfl ?_
          refine w_aload_n (pc2 := 111) G 0 rfl dX8_run_110 rfl rfl ?_
          refine w_iconst (pc2 := 112) G dX8_run_111 k_iconst_3 rfl ?_
          obtain ⟨x9, H_x9, h⟩ := bs h
          refine w_cV0 (pc2 := 115) (ws2 := (wX8 E a o x5.1 x5.2 c_sightOne c_sightOther c_sights c_pad c_padMany c_act c_which c_key c_other c_acts c_order c_digest c_tall x4 c_badAct c_badWhy c_alikeAct c_alikeTwo c_work c_isWorked c_trees c_from c_upTo c_shape c_kept c_isKept c_keptAt c_isWriting)) (As := [.int (3 : Int32)]) (rest := [.int ((x6 + x7) + x8)]) G koX8_99 (r_X8_many H_x9) (Nat.le_of_ble_eq_true rfl) 8 rfl rfl rfl rfl (Nat.le_of_ble_eq_true rfl) ⟨Nat.zero_le _, Nat.zero_le _⟩ dX8_run_112 rfl rfl ?_
          refine w_iadd (pc2 := 116) G dX8_run_115 rfl ?_
          refine w_istore (pc2 := 118) (lv2 := [(5, .int (((x6 + x7) + x8) + x9)), (0, .ref (a o)), (3, .int l3)]) G dX8_run_116 (Nat.le_of_ble_eq_true rfl) rfl rfl ?_
          refine w_aload_n (pc2 := 119) G 1 rfl dX8_run_118 rfl rfl ?_
          refine w_iload_n (pc2 := 120) G 2 rfl dX8_run_119 rfl rfl ?_
          refine w_if_ne (tgt := 134) (pc2 := 123) G dX8_run_120 (by decide) rfl (fun cc => ?_) (fun cc => ?_)
          · replace h := (if_neg cc).symm.trans h
            refine w_iload_n (pc2 := 135) G 2 rfl dX8_run_134 rfl rfl ?_
            refine w_iconst (pc2 := 136) G dX8_run_135 k_iconst_1 rfl ?_
            refine w_icmp_ne (tgt := 144) (pc2 := 139) G dX8_run_136 (by decide) rfl (fun cc => ?_) (fun cc => ?_)
            · replace h := (if_neg cc).symm.trans h
              refine w_aload_n (pc2 := 145) G 1 rfl dX8_run_144 rfl rfl ?_
              refine w_get (pc2 := 148) G foX8_78 0 rfl rfl dX8_run_145 rfl ?_
              obtain ⟨x10, H_x10, h⟩ := bs h
              refine w_cV0 (pc2 := 151) (ws2 := (wX8 E a o x10.2.1 x10.2.2 c_sightOne c_sightOther c_sights c_pad c_padMany c_act c_which c_key c_other c_acts c_order c_digest c_tall x4 c_badAct c_badWhy c_alikeAct c_alikeTwo c_work c_isWorked c_trees c_from c_upTo c_shape c_kept c_isKept c_keptAt c_isWriting)) (As := [.int x5.1]) (rest := []) G koX8_257 (r_X8_back H_x10) (Nat.le_of_ble_eq_true rfl) 8 rfl rfl rfl rfl (Nat.le_of_ble_eq_true rfl) ⟨Nat.zero_le _, Nat.zero_le _⟩ dX8_run_148 rfl rfl ?_
              cases h
              exact w_iret G hQ rfl ⟨rfl, rfl⟩ dX8_run_151
            · replace h := (if_pos cc).symm.trans h
              refine w_iload (pc2 := 141) G 0 rfl dX8_run_139 rfl ?_
              refine w_goto (tgt := 148) G dX8_run_141 (by decide) ?_
              obtain ⟨x11, H_x11, h⟩ := bs h
              refine w_cV0 (pc2 := 151) (ws2 := (wX8 E a o x11.2.1 x11.2.2 c_sightOne c_sightOther c_sights c_pad c_padMany c_act c_which c_key c_other c_acts c_order c_digest c_tall x4 c_badAct c_badWhy c_alikeAct c_alikeTwo c_work c_isWorked c_trees c_from c_upTo c_shape c_kept c_isKept c_keptAt c_isWriting)) (As := [.int (((x6 + x7) + x8) + x9)]) (rest := []) G koX8_257 (r_X8_back H_x11) (Nat.le_of_ble_eq_true rfl) 8 rfl rfl rfl rfl (Nat.le_of_ble_eq_true rfl) ⟨Nat.zero_le _, Nat.zero_le _⟩ dX8_run_148 rfl rfl ?_
              cases h
              exact w_iret G hQ rfl ⟨rfl, rfl⟩ dX8_run_151
          · replace h := (if_pos cc).symm.trans h
            refine w_aload_n (pc2 := 124) G 1 rfl dX8_run_123 rfl rfl ?_
            refine w_iconst (pc2 := 125) G dX8_run_124 k_iconst_0 rfl ?_
            refine w_iconst (pc2 := 126) G dX8_run_125 k_iconst_0 rfl ?_
            refine w_bipush (pc2 := 128) G dX8_run_126 k_bipush_49 rfl ?_
            obtain ⟨x12, H_x12, h⟩ := bs h
            refine w_cV0 (pc2 := 131) (ws2 := (wX8 E a o x5.1 x5.2 c_sightOne c_sightOther c_sights c_pad c_padMany c_act c_which c_key c_other c_acts x12.2.1 x12.2.2.1 x12.2.2.2 x4 c_badAct c_badWhy c_alikeAct c_alikeTwo c_work c_isWorked c_trees c_from c_upTo c_shape c_kept c_isKept c_keptAt c_isWriting)) (As := [.int (0 : Int32), .int (0 : Int32), .int (49 : Int32)]) (rest := [.ref (a o)]) G koX8_260 (r_X8_digestOf H_x12) (Nat.le_of_ble_eq_true rfl) 8 rfl rfl rfl rfl (Nat.le_of_ble_eq_true rfl) ⟨Nat.zero_le _, Nat.zero_le _⟩ dX8_run_128 rfl rfl ?_
            refine w_goto (tgt := 148) G dX8_run_131 (by decide) ?_
            obtain ⟨x13, H_x13, h⟩ := bs h
            refine w_cV0 (pc2 := 151) (ws2 := (wX8 E a o x13.2.1 x13.2.2 c_sightOne c_sightOther c_sights c_pad c_padMany c_act c_which c_key c_other c_acts x12.2.1 x12.2.2.1 x12.2.2.2 x4 c_badAct c_badWhy c_alikeAct c_alikeTwo c_work c_isWorked c_trees c_from c_upTo c_shape c_kept c_isKept c_keptAt c_isWriting)) (As := [.int x12.1]) (rest := []) G koX8_257 (r_X8_back H_x13) (Nat.le_of_ble_eq_true rfl) 8 rfl rfl rfl rfl (Nat.le_of_ble_eq_true rfl) ⟨Nat.zero_le _, Nat.zero_le _⟩ dX8_run_148 rfl rfl ?_
            cases h
            exact w_iret G hQ rfl ⟨rfl, rfl⟩ dX8_run_151
        exact w_lv [2, 4, 5, 1, 0] rfl (lp_X8_run_49 G 20000 _ _ _ _ _ _ h0 (w_lv [0, 1] rfl K_x5))
      · replace h := (if_pos cc).symm.trans h
        refine w_bipush (pc2 := 38) G dX8_run_36 k_bipush_m2 rfl ?_
        cases h
        exact w_iret G hQ rfl ⟨rfl, rfl⟩ dX8_run_38
