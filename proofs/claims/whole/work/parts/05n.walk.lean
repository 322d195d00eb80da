set_option maxHeartbeats 4000000 in
set_option maxRecDepth 100000 in
theorem lp_X8_digestOf_7 {g : CX} {E : EV} {a : Nat → Nat} {o : Nat} {c_sightOne c_sightOther : Nat → Int32} {c_sights : Int32} {c_pad : Nat → Int32} {c_padMany : Int32} {c_act c_which c_key c_other : Nat → Int32} {c_acts : Int32} {c_had : Nat → Int32} {c_badAct c_badWhy c_alikeAct c_alikeTwo c_work c_isWorked : Int32} {c_trees : Nat → Int64} {c_from c_upTo : Nat → Int32} {c_shape : Nat → Int64} {c_kept c_isKept : Nat → Int32} {c_keptAt c_isWriting : Int32}  (G : GG g E RX8 cX8_digestOf 6 (some .int) 5 0 0) : ∀ (n : Nat) (c_seed : Int32) (c_is : Nat → Int32) (c_order : Nat → Int32) (c_digest : Nat → Int64) (c_tall : Nat → Int32) (l1 : Int32) (l2 : Int32) (l3 : Int32) (l4 : Int32) (R : (Nat → Int64) × (Nat → Int32)), L_X8_digestOf_7 n c_seed c_is c_order c_digest c_tall l1 l2 l3 l4 = some R → WW g E 6 0 0 (wX8 E a o c_seed c_is c_sightOne c_sightOther c_sights c_pad c_padMany c_act c_which c_key c_other c_acts c_order R.1 R.2 c_had c_badAct c_badWhy c_alikeAct c_alikeTwo c_work c_isWorked c_trees c_from c_upTo c_shape c_kept c_isKept c_keptAt c_isWriting) [(0, .ref (a o)), (1, .int l1), (2, .int l2), (3, .int l3)] 61 [] → WW g E 6 0 0 (wX8 E a o c_seed c_is c_sightOne c_sightOther c_sights c_pad c_padMany c_act c_which c_key c_other c_acts c_order c_digest c_tall c_had c_badAct c_badWhy c_alikeAct c_alikeTwo c_work c_isWorked c_trees c_from c_upTo c_shape c_kept c_isKept c_keptAt c_isWriting) [(0, .ref (a o)), (1, .int l1), (2, .int l2), (3, .int l3), (4, .int l4)] 7 [] := by
  intro n
  induction n with
  | zero => intro c_seed c_is c_order c_digest c_tall l1 l2 l3 l4 R h; exact no_some h
  | succ n ih =>
    intro c_seed c_is c_order c_digest c_tall l1 l2 l3 l4 R h K
    rw [L_X8_digestOf_7] at h
    refine w_iload (pc2 := 9) G 4 rfl dX8_digestOf_7 rfl ?_
    refine w_bipush (pc2 := 11) G dX8_digestOf_9 k_bipush_50 rfl ?_
    refine w_icmp_ge (tgt := 61) (pc2 := 14) G dX8_digestOf_11 (by decide) rfl (fun cc => ?_) (fun cc => ?_)
    · replace h := (if_pos cc).symm.trans h
      cases h
      exact w_lv [0, 1, 2, 3] rfl K
    · replace h := (if_neg cc).symm.trans h
      refine w_aload_n (pc2 := 15) G 0 rfl dX8_digestOf_14 rfl rfl ?_
      refine w_get (pc2 := 18) G foX8_34 0 rfl rfl dX8_digestOf_15 rfl ?_
      refine w_iload (pc2 := 20) G 4 rfl dX8_digestOf_18 rfl ?_
      obtain ⟨v1, H_v1, h⟩ := bs h
      refine w_ialdo (pc2 := 21) G 9 rfl H_v1 dX8_digestOf_20 rfl ?_
      refine w_istore (pc2 := 23) (lv2 := [(5, .int v1), (0, .ref (a o)), (1, .int l1), (2, .int l2), (3, .int l3), (4, .int l4)]) G dX8_digestOf_21 (Nat.le_of_ble_eq_true rfl) rfl rfl ?_
      refine w_iload (pc2 := 25) G 0 rfl dX8_digestOf_23 rfl ?_
      refine w_i2l (pc2 := 26) G dX8_digestOf_25 rfl ?_
      refine w_iload_n (pc2 := 27) G 3 rfl dX8_digestOf_26 rfl rfl ?_
      refine w_i2l (pc2 := 28) G dX8_digestOf_27 rfl ?_
      refine w_iload_n (pc2 := 29) G 4 rfl dX8_digestOf_28 rfl rfl ?_
      refine w_i2l (pc2 := 30) G dX8_digestOf_29 rfl ?_
      obtain ⟨x2, H_x2, h⟩ := bs h
      refine w_cS0 (pc2 := 33) (As := [.long v1.toInt64, .long l2.toInt64, .long l3.toInt64]) (rest := []) G koX8_68 (r_X8_in H_x2) (Nat.le_of_ble_eq_true rfl) rfl rfl (Nat.le_of_ble_eq_true rfl) ⟨Nat.zero_le _, Nat.zero_le _⟩ dX8_digestOf_30 rfl rfl ?_
      refine w_if_eq (tgt := 55) (pc2 := 36) G dX8_digestOf_33 (by decide) rfl (fun cc => ?_) (fun cc => ?_)
      · replace h := (if_pos cc).symm.trans h
        refine w_iinc (pc2 := 58) (lv2 := [(4, .int (l4 + (1 : Int32))), (5, .int v1), (0, .ref (a o)), (1, .int l1), (2, .int l2), (3, .int l3)]) G 5 rfl dX8_digestOf_55 k_iconst_1 (Nat.le_of_ble_eq_true rfl) rfl rfl ?_
        refine w_goto (tgt := 7) G dX8_digestOf_58 (by decide) ?_
        exact w_lv [2, 3, 4, 5, 0] rfl (ih _ _ _ _ _ _ _ _ _ _ h K)
      · replace h := (if_neg cc).symm.trans h
        refine w_aload_n (pc2 := 37) G 1 rfl dX8_digestOf_36 rfl rfl ?_
        refine w_iload_n (pc2 := 38) G 2 rfl dX8_digestOf_37 rfl rfl ?_
        refine w_iload (pc2 := 40) G 0 rfl dX8_digestOf_38 rfl ?_
        obtain ⟨x3, H_x3, h⟩ := bs h
        refine w_cV0 (pc2 := 43) (ws2 := (wX8 E a o c_seed c_is c_sightOne c_sightOther c_sights c_pad c_padMany c_act c_which c_key c_other c_acts c_order c_digest c_tall c_had c_badAct c_badWhy c_alikeAct c_alikeTwo c_work c_isWorked c_trees c_from c_upTo c_shape c_kept c_isKept c_keptAt c_isWriting)) (As := [.int l1, .int v1]) (rest := []) G koX8_95 (r_X8_has H_x3) (Nat.le_of_ble_eq_true rfl) 8 rfl rfl rfl rfl (Nat.le_of_ble_eq_true rfl) ⟨Nat.zero_le _, Nat.zero_le _⟩ dX8_digestOf_40 rfl rfl ?_
        refine w_if_eq (tgt := 55) (pc2 := 46) G dX8_digestOf_43 (by decide) rfl (fun cc => ?_) (fun cc => ?_)
        · replace h := (if_pos cc).symm.trans h
          refine w_iinc (pc2 := 58) (lv2 := [(4, .int (l4 + (1 : Int32))), (5, .int v1), (0, .ref (a o)), (1, .int l1), (2, .int l2), (3, .int l3)]) G 5 rfl dX8_digestOf_55 k_iconst_1 (Nat.le_of_ble_eq_true rfl) rfl rfl ?_
          refine w_goto (tgt := 7) G dX8_digestOf_58 (by decide) ?_
          exact w_lv [2, 3, 4, 5, 0] rfl (ih _ _ _ _ _ _ _ _ _ _ h K)
        · replace h := (if_neg cc).symm.trans h
          refine w_aload_n (pc2 := 47) G 1 rfl dX8_digestOf_46 rfl rfl ?_
          refine w_iload_n (pc2 := 48) G 2 rfl dX8_digestOf_47 rfl rfl ?_
          refine w_iload (pc2 := 50) G 0 rfl dX8_digestOf_48 rfl ?_
          refine w_iload_n (pc2 := 51) G 3 rfl dX8_digestOf_50 rfl rfl ?_
          refine w_iload_n (pc2 := 52) G 4 rfl dX8_digestOf_51 rfl rfl ?_
          obtain ⟨x4, H_x4, h⟩ := bs h
          refine w_cV0 (pc2 := 55) (ws2 := (wX8 E a o c_seed c_is c_sightOne c_sightOther c_sights c_pad c_padMany c_act c_which c_key c_other c_acts c_order x4.1 x4.2 c_had c_badAct c_badWhy c_alikeAct c_alikeTwo c_work c_isWorked c_trees c_from c_upTo c_shape c_kept c_isKept c_keptAt c_isWriting)) (As := [.int l1, .int v1, .int l2, .int l3]) (rest := []) G koX8_189 (r_X8_findOne H_x4) (Nat.le_of_ble_eq_true rfl) 8 rfl rfl rfl rfl (Nat.le_of_ble_eq_true rfl) ⟨Nat.zero_le _, Nat.zero_le _⟩ dX8_digestOf_52 rfl rfl ?_
          refine w_iinc (pc2 := 58) (lv2 := [(4, .int (l4 + (1 : Int32))), (5, .int v1), (0, .ref (a o)), (1, .int l1), (2, .int l2), (3, .int l3)]) G 5 rfl dX8_digestOf_55 k_iconst_1 (Nat.le_of_ble_eq_true rfl) rfl rfl ?_
          refine w_goto (tgt := 7) G dX8_digestOf_58 (by decide) ?_
          exact w_lv [2, 3, 4, 5, 0] rfl (ih _ _ _ _ _ _ _ _ _ _ h K)
set_option maxHeartbeats 4000000 in
set_option maxRecDepth 100000 in
theorem r_X8_digestOf {l : Launch} {E : EV} {a : Nat → Nat} {o : Nat} {c_seed : Int32} {c_is c_sightOne c_sightOther : Nat → Int32} {c_sights : Int32} {c_pad : Nat → Int32} {c_padMany : Int32} {c_act c_which c_key c_other : Nat → Int32} {c_acts : Int32} {c_order : Nat → Int32} {c_digest : Nat → Int64} {c_tall c_had : Nat → Int32} {c_badAct c_badWhy c_alikeAct c_alikeTwo c_work c_isWorked : Int32} {c_trees : Nat → Int64} {c_from c_upTo : Nat → Int32} {c_shape : Nat → Int64} {c_kept c_isKept : Nat → Int32} {c_keptAt c_isWriting : Int32} {l1 : Int32} {l2 : Int32} {l3 : Int32} {R : Int32 × (Nat → Int32) × (Nat → Int64) × (Nat → Int32)} (h : f_X8_digestOf c_seed c_is c_order c_digest c_tall l1 l2 l3 = some R) : Ret1 l E yX8_digestOf cX8_digestOf 6 (some .int) 5 (wX8 E a o c_seed c_is c_sightOne c_sightOther c_sights c_pad c_padMany c_act c_which c_key c_other c_acts c_order c_digest c_tall c_had c_badAct c_badWhy c_alikeAct c_alikeTwo c_work c_isWorked c_trees c_from c_upTo c_shape c_kept c_isKept c_keptAt c_isWriting) [.ref (a o), .int l1, .int l2, .int l3] (some (.int R.1)) (wX8 E a o c_seed c_is c_sightOne c_sightOther c_sights c_pad c_padMany c_act c_which c_key c_other c_acts R.2.1 R.2.2.1 R.2.2.2 c_had c_badAct c_badWhy c_alikeAct c_alikeTwo c_work c_isWorked c_trees c_from c_upTo c_shape c_kept c_isKept c_keptAt c_isWriting) := by
  refine Ret.intro (lv := [(0, .ref (a o)), (1, .int l1), (2, .int l2), (3, .int l3)]) (by decide) (Nat.le_of_ble_eq_true rfl) rfl ?_
  intro g hgl G hQ
  subst hgl
  rw [f_X8_digestOf] at h
  refine w_aload_n (pc2 := 1) G 0 rfl dX8_digestOf_0 rfl rfl ?_
  obtain ⟨x1, H_x1, h⟩ := bs h
  refine w_cV0 (pc2 := 4) (ws2 := (wX8 E a o c_seed c_is c_sightOne c_sightOther c_sights c_pad c_padMany c_act c_which c_key c_other c_acts x1 c_digest c_tall c_had c_badAct c_badWhy c_alikeAct c_alikeTwo c_work c_isWorked c_trees c_from c_upTo c_shape c_kept c_isKept c_keptAt c_isWriting)) (As := []) (rest := []) G koX8_186 (r_X8_findOrder H_x1) (Nat.le_of_ble_eq_true rfl) 8 rfl rfl rfl rfl (Nat.le_of_ble_eq_true rfl) ⟨Nat.zero_le _, Nat.zero_le _⟩ dX8_digestOf_1 rfl rfl ?_
  refine w_iconst (pc2 := 5) G dX8_digestOf_4 k_iconst_0 rfl ?_
  refine w_istore (pc2 := 7) (lv2 := [(4, .int (0 : Int32)), (0, .ref (a o)), (1, .int l1), (2, .int l2), (3, .int l3)]) G dX8_digestOf_5 (Nat.le_of_ble_eq_true rfl) rfl rfl ?_
  obtain ⟨x2, h0, h⟩ := bs h
  have K_x2 : WW g E 6 0 0 (wX8 E a o c_seed c_is c_sightOne c_sightOther c_sights c_pad c_padMany c_act c_which c_key c_other c_acts x1 x2.1 x2.2 c_had c_badAct c_badWhy c_alikeAct c_alikeTwo c_work c_isWorked c_trees c_from c_upTo c_shape c_kept c_isKept c_keptAt c_isWriting) [(0, .ref (a o)), (1, .int l1), (2, .int l2), (3, .int l3)] 61 [] := by
    clear h0
    refine w_aload_n (pc2 := 62) G 0 rfl dX8_digestOf_61 rfl rfl ?_
    refine w_iload_n (pc2 := 63) G 1 rfl dX8_digestOf_62 rfl rfl ?_
    refine w_iload_n (pc2 := 64) G 2 rfl dX8_digestOf_63 rfl rfl ?_
    refine w_iload_n (pc2 := 65) G 3 rfl dX8_digestOf_64 rfl rfl ?_
    obtain ⟨x3, H_x3, h⟩ := bs h
    refine w_cV0 (pc2 := 68) (ws2 := (wX8 E a o c_seed c_is c_sightOne c_sightOther c_sights c_pad c_padMany c_act c_which c_key c_other c_acts x1 x2.1 x2.2 c_had c_badAct c_badWhy c_alikeAct c_alikeTwo c_work c_isWorked c_trees c_from c_upTo c_shape c_kept c_isKept c_keptAt c_isWriting)) (As := [.int l1, .int l2, .int l3]) (rest := []) G koX8_177 (r_X8_rootOf H_x3) (Nat.le_of_ble_eq_true rfl) 8 rfl rfl rfl rfl (Nat.le_of_ble_eq_true rfl) ⟨Nat.zero_le _, Nat.zero_le _⟩ dX8_digestOf_65 rfl rfl ?_
    refine w_istore (pc2 := 70) (lv2 := [(4, .int x3), (0, .ref (a o)), (1, .int l1), (2, .int l2), (3, .int l3)]) G dX8_digestOf_68 (Nat.le_of_ble_eq_true rfl) rfl rfl ?_
    refine w_iload (pc2 := 72) G 0 rfl dX8_digestOf_70 rfl ?_
    refine w_if_ge (tgt := 79) (pc2 := 75) G dX8_digestOf_72 (by decide) rfl (fun cc => ?_) (fun cc => ?_)
    · replace h := (if_pos cc).symm.trans h
      refine w_aload_n (pc2 := 80) G 1 rfl dX8_digestOf_79 rfl rfl ?_
      refine w_get (pc2 := 83) G foX8_37 0 rfl rfl dX8_digestOf_80 rfl ?_
      refine w_iload (pc2 := 85) G 0 rfl dX8_digestOf_83 rfl ?_
      obtain ⟨v4, H_v4, h⟩ := bs h
      refine w_laldo (pc2 := 86) G 10 rfl H_v4 dX8_digestOf_85 rfl ?_
      refine w_l2i (pc2 := 87) G dX8_digestOf_86 rfl ?_
      cases h
      exact w_iret G hQ rfl ⟨rfl, rfl⟩ dX8_digestOf_87
    · replace h := (if_neg cc).symm.trans h
      refine w_iconst (pc2 := 76) G dX8_digestOf_75 k_iconst_0 rfl ?_
      refine w_goto (tgt := 87) G dX8_digestOf_76 (by decide) ?_
      cases h
      exact w_iret G hQ rfl ⟨rfl, rfl⟩ dX8_digestOf_87
  exact w_lv [1, 2, 3, 4, 0] rfl (lp_X8_digestOf_7 G 20000 _ _ _ _ _ _ _ _ _ _ h0 (w_lv [0, 1, 2, 3] rfl K_x2))

set_option maxHeartbeats 4000000 in
set_option maxRecDepth 100000 in
theorem lp_X8_keepNow_2 {g : CX} {E : EV} {a : Nat → Nat} {o : Nat} {c_seed : Int32} {c_sightOne c_sightOther : Nat → Int32} {c_sights : Int32} {c_pad : Nat → Int32} {c_padMany : Int32} {c_act c_which c_key c_other : Nat → Int32} {c_acts : Int32} {c_order : Nat → Int32} {c_digest : Nat → Int64} {c_tall : Nat → Int32} {c_badAct c_badWhy c_alikeAct c_alikeTwo c_work c_isWorked : Int32} {c_trees : Nat → Int64} {c_from c_upTo : Nat → Int32} {c_shape : Nat → Int64} {c_kept c_isKept : Nat → Int32} {c_keptAt c_isWriting : Int32}  (G : GG g E RX8 cX8_keepNow 2 none 0 0 0) : ∀ (n : Nat) (c_is : Nat → Int32) (c_had : Nat → Int32) (l1 : Int32) (R : (Nat → Int32)), L_X8_keepNow_2 n c_is c_had l1 = some R → WW g E 2 0 0 (wX8 E a o c_seed c_is c_sightOne c_sightOther c_sights c_pad c_padMany c_act c_which c_key c_other c_acts c_order c_digest c_tall R c_badAct c_badWhy c_alikeAct c_alikeTwo c_work c_isWorked c_trees c_from c_upTo c_shape c_kept c_isKept c_keptAt c_isWriting) [(0, .ref (a o))] 27 [] → WW g E 2 0 0 (wX8 E a o c_seed c_is c_sightOne c_sightOther c_sights c_pad c_padMany c_act c_which c_key c_other c_acts c_order c_digest c_tall c_had c_badAct c_badWhy c_alikeAct c_alikeTwo c_work c_isWorked c_trees c_from c_upTo c_shape c_kept c_isKept c_keptAt c_isWriting) [(0, .ref (a o)), (1, .int l1)] 2 [] := by
  intro n
  induction n with
  | zero => intro c_is c_had l1 R h; exact no_some h
  | succ n ih =>
    intro c_is c_had l1 R h K
    rw [L_X8_keepNow_2] at h
    refine w_iload_n (pc2 := 3) G 1 rfl dX8_keepNow_2 rfl rfl ?_
    refine w_sipush (pc2 := 6) G dX8_keepNow_3 k_sipush_200 rfl ?_
    refine w_icmp_ge (tgt := 27) (pc2 := 9) G dX8_keepNow_6 (by decide) rfl (fun cc => ?_) (fun cc => ?_)
    · replace h := (if_pos cc).symm.trans h
      cases h
      exact w_lv [0] rfl K
    · replace h := (if_neg cc).symm.trans h
      refine w_aload_n (pc2 := 10) G 0 rfl dX8_keepNow_9 rfl rfl ?_
      refine w_get (pc2 := 13) G foX8_44 0 rfl rfl dX8_keepNow_10 rfl ?_
      refine w_iload_n (pc2 := 14) G 1 rfl dX8_keepNow_13 rfl rfl ?_
      refine w_aload_n (pc2 := 15) G 0 rfl dX8_keepNow_14 rfl rfl ?_
      refine w_get (pc2 := 18) G foX8_7 0 rfl rfl dX8_keepNow_15 rfl ?_
      refine w_iload_n (pc2 := 19) G 1 rfl dX8_keepNow_18 rfl rfl ?_
      obtain ⟨v1, H_v1, h⟩ := bs h
      refine w_ialdo (pc2 := 20) G 1 rfl H_v1 dX8_keepNow_19 rfl ?_
      obtain ⟨f2, H_f2, h⟩ := bs h
      refine w_iasto (pc2 := 21) (ws2 := (wX8 E a o c_seed c_is c_sightOne c_sightOther c_sights c_pad c_padMany c_act c_which c_key c_other c_acts c_order c_digest c_tall f2 c_badAct c_badWhy c_alikeAct c_alikeTwo c_work c_isWorked c_trees c_from c_upTo c_shape c_kept c_isKept c_keptAt c_isWriting)) G 12 rfl H_f2 rfl dX8_keepNow_20 rfl ?_
      refine w_iinc (pc2 := 24) (lv2 := [(1, .int (l1 + (1 : Int32))), (0, .ref (a o))]) G 1 rfl dX8_keepNow_21 k_iconst_1 (Nat.le_of_ble_eq_true rfl) rfl rfl ?_
      refine w_goto (tgt := 2) G dX8_keepNow_24 (by decide) ?_
      exact w_lv [1, 0] rfl (ih _ _ _ _ h K)
set_option maxHeartbeats 4000000 in
set_option maxRecDepth 100000 in
theorem r_X8_keepNow {l : Launch} {E : EV} {a : Nat → Nat} {o : Nat} {c_seed : Int32} {c_is c_sightOne c_sightOther : Nat → Int32} {c_sights : Int32} {c_pad : Nat → Int32} {c_padMany : Int32} {c_act c_which c_key c_other : Nat → Int32} {c_acts : Int32} {c_order : Nat → Int32} {c_digest : Nat → Int64} {c_tall c_had : Nat → Int32} {c_badAct c_badWhy c_alikeAct c_alikeTwo c_work c_isWorked : Int32} {c_trees : Nat → Int64} {c_from c_upTo : Nat → Int32} {c_shape : Nat → Int64} {c_kept c_isKept : Nat → Int32} {c_keptAt c_isWriting : Int32}  {R : (Nat → Int32)} (h : f_X8_keepNow c_seed c_is c_had = some R) : Ret1 l E yX8_keepNow cX8_keepNow 2 none 0 (wX8 E a o c_seed c_is c_sightOne c_sightOther c_sights c_pad c_padMany c_act c_which c_key c_other c_acts c_order c_digest c_tall c_had c_badAct c_badWhy c_alikeAct c_alikeTwo c_work c_isWorked c_trees c_from c_upTo c_shape c_kept c_isKept c_keptAt c_isWriting) [.ref (a o)] none (wX8 E a o c_seed c_is c_sightOne c_sightOther c_sights c_pad c_padMany c_act c_which c_key c_other c_acts c_order c_digest c_tall R c_badAct c_badWhy c_alikeAct c_alikeTwo c_work c_isWorked c_trees c_from c_upTo c_shape c_kept c_isKept c_keptAt c_isWriting) := by
  refine Ret.intro (lv := [(0, .ref (a o))]) (by decide) (Nat.le_of_ble_eq_true rfl) rfl ?_
  intro g hgl G hQ
  subst hgl
  rw [f_X8_keepNow] at h
  refine w_iconst (pc2 := 1) G dX8_keepNow_0 k_iconst_0 rfl ?_
  refine w_istore_n (pc2 := 2) (lv2 := [(1, .int (0 : Int32)), (0, .ref (a o))]) G dX8_keepNow_1 rfl (Nat.le_of_ble_eq_true rfl) rfl rfl ?_
  obtain ⟨x1, h0, h⟩ := bs h
  have K_x1 : WW g E 2 0 0 (wX8 E a o c_seed c_is c_sightOne c_sightOther c_sights c_pad c_padMany c_act c_which c_key c_other c_acts c_order c_digest c_tall x1 c_badAct c_badWhy c_alikeAct c_alikeTwo c_work c_isWorked c_trees c_from c_upTo c_shape c_kept c_isKept c_keptAt c_isWriting) [(0, .ref (a o))] 27 [] := by
    clear h0
    refine w_aload_n (pc2 := 28) G 0 rfl dX8_keepNow_27 rfl rfl ?_
    refine w_get (pc2 := 31) G foX8_44 0 rfl rfl dX8_keepNow_28 rfl ?_
    refine w_sipush (pc2 := 34) G dX8_keepNow_31 k_sipush_200 rfl ?_
    refine w_aload_n (pc2 := 35) G 0 rfl dX8_keepNow_34 rfl rfl ?_
    refine w_get (pc2 := 38) G foX8_78 0 rfl rfl dX8_keepNow_35 rfl ?_
    obtain ⟨f2, H_f2, h⟩ := bs h
    refine w_iasto (pc2 := 39) (ws2 := (wX8 E a o c_seed c_is c_sightOne c_sightOther c_sights c_pad c_padMany c_act c_which c_key c_other c_acts c_order c_digest c_tall f2 c_badAct c_badWhy c_alikeAct c_alikeTwo c_work c_isWorked c_trees c_from c_upTo c_shape c_kept c_isKept c_keptAt c_isWriting)) G 12 rfl H_f2 rfl dX8_keepNow_38 rfl ?_
    cases h
    exact w_vret G hQ rfl ⟨rfl, rfl⟩ dX8_keepNow_39
  exact w_lv [1, 0] rfl (lp_X8_keepNow_2 G 20000 _ _ _ _ h0 (w_lv [0] rfl K_x1))

set_option maxHeartbeats 4000000 in
set_option maxRecDepth 100000 in
theorem lp_X8_back_2 {g : CX} {E : EV} {a : Nat → Nat} {o : Nat} {c_seed : Int32} {c_sightOne c_sightOther : Nat → Int32} {c_sights : Int32} {c_pad : Nat → Int32} {c_padMany : Int32} {c_act c_which c_key c_other : Nat → Int32} {c_acts : Int32} {c_order : Nat → Int32} {c_digest : Nat → Int64} {c_tall : Nat → Int32} {c_badAct c_badWhy c_alikeAct c_alikeTwo c_work c_isWorked : Int32} {c_trees : Nat → Int64} {c_from c_upTo : Nat → Int32} {c_shape : Nat → Int64} {c_kept c_isKept : Nat → Int32} {c_keptAt c_isWriting : Int32} {l1 : Int32} (G : GG g E RX8 cX8_back 3 (some .int) 0 0 0) : ∀ (n : Nat) (c_is : Nat → Int32) (c_had : Nat → Int32) (l2 : Int32) (R : (Nat → Int32)), L_X8_back_2 n c_is c_had l2 = some R → WW g E 3 0 0 (wX8 E a o c_seed R c_sightOne c_sightOther c_sights c_pad c_padMany c_act c_which c_key c_other c_acts c_order c_digest c_tall c_had c_badAct c_badWhy c_alikeAct c_alikeTwo c_work c_isWorked c_trees c_from c_upTo c_shape c_kept c_isKept c_keptAt c_isWriting) [(0, .ref (a o)), (1, .int l1)] 27 [] → WW g E 3 0 0 (wX8 E a o c_seed c_is c_sightOne c_sightOther c_sights c_pad c_padMany c_act c_which c_key c_other c_acts c_order c_digest c_tall c_had c_badAct c_badWhy c_alikeAct c_alikeTwo c_work c_isWorked c_trees c_from c_upTo c_shape c_kept c_isKept c_keptAt c_isWriting) [(0, .ref (a o)), (1, .int l1), (2, .int l2)] 2 [] := by
  intro n
  induction n with
  | zero => intro c_is c_had l2 R h; exact no_some h
  | succ n ih =>
    intro c_is c_had l2 R h K
    rw [L_X8_back_2] at h
    refine w_iload_n (pc2 := 3) G 2 rfl dX8_back_2 rfl rfl ?_
    refine w_sipush (pc2 := 6) G dX8_back_3 k_sipush_200 rfl ?_
    refine w_icmp_ge (tgt := 27) (pc2 := 9) G dX8_back_6 (by decide) rfl (fun cc => ?_) (fun cc => ?_)
    · replace h := (if_pos cc).symm.trans h
      cases h
      exact w_lv [0, 1] rfl K
    · replace h := (if_neg cc).symm.trans h
      refine w_aload_n (pc2 := 10) G 0 rfl dX8_back_9 rfl rfl ?_
      refine w_get (pc2 := 13) G foX8_7 0 rfl rfl dX8_back_10 rfl ?_
      refine w_iload_n (pc2 := 14) G 2 rfl dX8_back_13 rfl rfl ?_
      refine w_aload_n (pc2 := 15) G 0 rfl dX8_back_14 rfl rfl ?_
      refine w_get (pc2 := 18) G foX8_44 0 rfl rfl dX8_back_15 rfl ?_
      refine w_iload_n (pc2 := 19) G 2 rfl dX8_back_18 rfl rfl ?_
      obtain ⟨v1, H_v1, h⟩ := bs h
      refine w_ialdo (pc2 := 20) G 12 rfl H_v1 dX8_back_19 rfl ?_
      obtain ⟨f2, H_f2, h⟩ := bs h
      refine w_iasto (pc2 := 21) (ws2 := (wX8 E a o c_seed f2 c_sightOne c_sightOther c_sights c_pad c_padMany c_act c_which c_key c_other c_acts c_order c_digest c_tall c_had c_badAct c_badWhy c_alikeAct c_alikeTwo c_work c_isWorked c_trees c_from c_upTo c_shape c_kept c_isKept c_keptAt c_isWriting)) G 1 rfl H_f2 rfl dX8_back_20 rfl ?_
      refine w_iinc (pc2 := 24) (lv2 := [(2, .int (l2 + (1 : Int32))), (0, .ref (a o)), (1, .int l1)]) G 2 rfl dX8_back_21 k_iconst_1 (Nat.le_of_ble_eq_true rfl) rfl rfl ?_
      refine w_goto (tgt := 2) G dX8_back_24 (by decide) ?_
      exact w_lv [1, 2, 0] rfl (ih _ _ _ _ h K)
set_option maxHeartbeats 4000000 in
set_option maxRecDepth 100000 in
theorem r_X8_back {l : Launch} {E : EV} {a : Nat → Nat} {o : Nat} {c_seed : Int32} {c_is c_sightOne c_sightOther : Nat → Int32} {c_sights : Int32} {c_pad : Nat → Int32} {c_padMany : Int32} {c_act c_which c_key c_other : Nat → Int32} {c_acts : Int32} {c_order : Nat → Int32} {c_digest : Nat → Int64} {c_tall c_had : Nat → Int32} {c_badAct c_badWhy c_alikeAct c_alikeTwo c_work c_isWorked : Int32} {c_trees : Nat → Int64} {c_from c_upTo : Nat → Int32} {c_shape : Nat → Int64} {c_kept c_isKept : Nat → Int32} {c_keptAt c_isWriting : Int32} {l1 : Int32} {R : Int32 × Int32 × (Nat → Int32)} (h : f_X8_back c_seed c_is c_had l1 = some R) : Ret1 l E yX8_back cX8_back 3 (some .int) 0 (wX8 E a o c_seed c_is c_sightOne c_sightOther c_sights c_pad c_padMany c_act c_which c_key c_other c_acts c_order c_digest c_tall c_had c_badAct c_badWhy c_alikeAct c_alikeTwo c_work c_isWorked c_trees c_from c_upTo c_shape c_kept c_isKept c_keptAt c_isWriting) [.ref (a o), .int l1] (some (.int R.1)) (wX8 E a o R.2.1 R.2.2 c_sightOne c_sightOther c_sights c_pad c_padMany c_act c_which c_key c_other c_acts c_order c_digest c_tall c_had c_badAct c_badWhy c_alikeAct c_alikeTwo c_work c_isWorked c_trees c_from c_upTo c_shape c_kept c_isKept c_keptAt c_isWriting) := by
  refine Ret.intro (lv := [(0, .ref (a o)), (1, .int l1)]) (by decide) (Nat.le_of_ble_eq_true rfl) rfl ?_
  intro g hgl G hQ
  subst hgl
  rw [f_X8_back] at h
  refine w_iconst (pc2 := 1) G dX8_back_0 k_iconst_0 rfl ?_
  refine w_istore_n (pc2 := 2) (lv2 := [(2, .int (0 : Int32)), (0, .ref (a o)), (1, .int l1)]) G dX8_back_1 rfl (Nat.le_of_ble_eq_true rfl) rfl rfl ?_
  obtain ⟨x1, h0, h⟩ := bs h
  have K_x1 : WW g E 3 0 0 (wX8 E a o c_seed x1 c_sightOne c_sightOther c_sights c_pad c_padMany c_act c_which c_key c_other c_acts c_order c_digest c_tall c_had c_badAct c_badWhy c_alikeAct c_alikeTwo c_work c_isWorked c_trees c_from c_upTo c_shape c_kept c_isKept c_keptAt c_isWriting) [(0, .ref (a o)), (1, .int l1)] 27 [] := by
    clear h0
    refine w_aload_n (pc2 := 28) G 0 rfl dX8_back_27 rfl rfl ?_
    refine w_aload_n (pc2 := 29) G 0 rfl dX8_back_28 rfl rfl ?_
    refine w_get (pc2 := 32) G foX8_44 0 rfl rfl dX8_back_29 rfl ?_
    refine w_sipush (pc2 := 35) G dX8_back_32 k_sipush_200 rfl ?_
    obtain ⟨v2, H_v2, h⟩ := bs h
    refine w_ialdo (pc2 := 36) G 12 rfl H_v2 dX8_back_35 rfl ?_
    refine w_put (pc2 := 39) (ws2 := (wX8 E a o v2 x1 c_sightOne c_sightOther c_sights c_pad c_padMany c_act c_which c_key c_other c_acts c_order c_digest c_tall c_had c_badAct c_badWhy c_alikeAct c_alikeTwo c_work c_isWorked c_trees c_from c_upTo c_shape c_kept c_isKept c_keptAt c_isWriting)) G foX8_78 tokX8 0 rfl rfl rfl rfl (Nat.le_of_ble_eq_true rfl) rfl dX8_back_36 rfl ?_
    refine w_iload_n (pc2 := 40) G 1 rfl dX8_back_39 rfl rfl ?_
    cases h
    exact w_iret G hQ rfl ⟨rfl, rfl⟩ dX8_back_40
  exact w_lv [1, 2, 0] rfl (lp_X8_back_2 G 20000 _ _ _ _ h0 (w_lv [0, 1] rfl K_x1))

set_option maxHeartbeats 4000000 in
set_option maxRecDepth 100000 in
theorem lp_X8_findTrees_2 {g : CX} {E : EV} {a : Nat → Nat} {o : Nat} {c_sightOne c_sightOther : Nat → Int32} {c_sights : Int32} {c_pad : Nat → Int32} {c_padMany : Int32} {c_act c_which c_key c_other : Nat → Int32} {c_acts : Int32} {c_order : Nat → Int32} {c_digest : Nat → Int64} {c_tall c_had : Nat → Int32} {c_badAct c_badWhy c_alikeAct c_alikeTwo c_work c_isWorked : Int32} {c_from c_upTo : Nat → Int32} {c_shape : Nat → Int64} {c_kept c_isKept : Nat → Int32} {c_keptAt c_isWriting : Int32}  (G : GG g E RX8 cX8_findTrees 2 none 5 0 0) : ∀ (n : Nat) (c_seed : Int32) (c_is : Nat → Int32) (c_trees : Nat → Int64) (l1 : Int32) (R : (Nat → Int64)), L_X8_findTrees_2 n c_seed c_is c_trees l1 = some R → WW g E 2 0 0 (wX8 E a o c_seed c_is c_sightOne c_sightOther c_sights c_pad c_padMany c_act c_which c_key c_other c_acts c_order c_digest c_tall c_had c_badAct c_badWhy c_alikeAct c_alikeTwo c_work c_isWorked R c_from c_upTo c_shape c_kept c_isKept c_keptAt c_isWriting) [] 47 [] → WW g E 2 0 0 (wX8 E a o c_seed c_is c_sightOne c_sightOther c_sights c_pad c_padMany c_act c_which c_key c_other c_acts c_order c_digest c_tall c_had c_badAct c_badWhy c_alikeAct c_alikeTwo c_work c_isWorked c_trees c_from c_upTo c_shape c_kept c_isKept c_keptAt c_isWriting) [(0, .ref (a o)), (1, .int l1)] 2 [] := by
  intro n
  induction n with
  | zero => intro c_seed c_is c_trees l1 R h; exact no_some h
  | succ n ih =>
    intro c_seed c_is c_trees l1 R h K
    rw [L_X8_findTrees_2] at h
    refine w_iload_n (pc2 := 3) G 1 rfl dX8_findTrees_2 rfl rfl ?_
    refine w_sipush (pc2 := 6) G dX8_findTrees_3 k_sipush_200 rfl ?_
    refine w_icmp_ge (tgt := 47) (pc2 := 9) G dX8_findTrees_6 (by decide) rfl (fun cc => ?_) (fun cc => ?_)
    · replace h := (if_pos cc).symm.trans h
      cases h
      exact w_lv [] rfl K
    · replace h := (if_neg cc).symm.trans h
      refine w_aload_n (pc2 := 10) G 0 rfl dX8_findTrees_9 rfl rfl ?_
      refine w_get (pc2 := 13) G foX8_47 0 rfl rfl dX8_findTrees_10 rfl ?_
      refine w_iload_n (pc2 := 14) G 1 rfl dX8_findTrees_13 rfl rfl ?_
      refine w_aload_n (pc2 := 15) G 0 rfl dX8_findTrees_14 rfl rfl ?_
      refine w_get (pc2 := 18) G foX8_7 0 rfl rfl dX8_findTrees_15 rfl ?_
      refine w_iload_n (pc2 := 19) G 1 rfl dX8_findTrees_18 rfl rfl ?_
      obtain ⟨v1, H_v1, h⟩ := bs h
      refine w_ialdo (pc2 := 20) G 1 rfl H_v1 dX8_findTrees_19 rfl ?_
      refine w_iconst (pc2 := 21) G dX8_findTrees_20 k_iconst_1 rfl ?_
      refine w_icmp_ne (tgt := 39) (pc2 := 24) G dX8_findTrees_21 (by decide) rfl (fun cc => ?_) (fun cc => ?_)
      · replace h := (if_neg cc).symm.trans h
        refine w_lconst (pc2 := 40) G dX8_findTrees_39 k_lconst_0 rfl ?_
        obtain ⟨f2, H_f2, h⟩ := bs h
        refine w_lasto (pc2 := 41) (ws2 := (wX8 E a o c_seed c_is c_sightOne c_sightOther c_sights c_pad c_padMany c_act c_which c_key c_other c_acts c_order c_digest c_tall c_had c_badAct c_badWhy c_alikeAct c_alikeTwo c_work c_isWorked f2 c_from c_upTo c_shape c_kept c_isKept c_keptAt c_isWriting)) G 13 rfl H_f2 rfl dX8_findTrees_40 rfl ?_
        refine w_iinc (pc2 := 44) (lv2 := [(1, .int (l1 + (1 : Int32))), (0, .ref (a o))]) G 1 rfl dX8_findTrees_41 k_iconst_1 (Nat.le_of_ble_eq_true rfl) rfl rfl ?_
        refine w_goto (tgt := 2) G dX8_findTrees_44 (by decide) ?_
        exact w_lv [1, 0] rfl (ih _ _ _ _ _ h K)
      · replace h := (if_pos cc).symm.trans h
        refine w_aload_n (pc2 := 25) G 0 rfl dX8_findTrees_24 rfl rfl ?_
        refine w_iload_n (pc2 := 26) G 1 rfl dX8_findTrees_25 rfl rfl ?_
        refine w_bipush (pc2 := 28) G dX8_findTrees_26 k_bipush_50 rfl ?_
        refine w_idiv (pc2 := 29) G dX8_findTrees_28 (by decide) rfl ?_
        refine w_iload_n (pc2 := 30) G 1 rfl dX8_findTrees_29 rfl rfl ?_
        refine w_bipush (pc2 := 32) G dX8_findTrees_30 k_bipush_50 rfl ?_
        refine w_irem (pc2 := 33) G dX8_findTrees_32 (by decide) rfl ?_
        obtain ⟨x3, H_x3, h⟩ := bs h
        refine w_cV0 (pc2 := 36) (ws2 := (wX8 E a o c_seed c_is c_sightOne c_sightOther c_sights c_pad c_padMany c_act c_which c_key c_other c_acts c_order c_digest c_tall c_had c_badAct c_badWhy c_alikeAct c_alikeTwo c_work c_isWorked c_trees c_from c_upTo c_shape c_kept c_isKept c_keptAt c_isWriting)) (As := [.int (l1 / (50 : Int32)), .int (l1 - l1 / (50 : Int32) * (50 : Int32))]) (rest := [.int l1, .ref (a (o + 13))]) G koX8_193 (r_X8_treeOf H_x3) (Nat.le_of_ble_eq_true rfl) 8 rfl rfl rfl rfl (Nat.le_of_ble_eq_true rfl) ⟨Nat.zero_le _, Nat.zero_le _⟩ dX8_findTrees_33 rfl rfl ?_
        refine w_goto (tgt := 40) G dX8_findTrees_36 (by decide) ?_
        obtain ⟨f4, H_f4, h⟩ := bs h
        refine w_lasto (pc2 := 41) (ws2 := (wX8 E a o c_seed c_is c_sightOne c_sightOther c_sights c_pad c_padMany c_act c_which c_key c_other c_acts c_order c_digest c_tall c_had c_badAct c_badWhy c_alikeAct c_alikeTwo c_work c_isWorked f4 c_from c_upTo c_shape c_kept c_isKept c_keptAt c_isWriting)) G 13 rfl H_f4 rfl dX8_findTrees_40 rfl ?_
        refine w_iinc (pc2 := 44) (lv2 := [(1, .int (l1 + (1 : Int32))), (0, .ref (a o))]) G 1 rfl dX8_findTrees_41 k_iconst_1 (Nat.le_of_ble_eq_true rfl) rfl rfl ?_
        refine w_goto (tgt := 2) G dX8_findTrees_44 (by decide) ?_
        exact w_lv [1, 0] rfl (ih _ _ _ _ _ h K)
set_option maxHeartbeats 4000000 in
set_option maxRecDepth 100000 in
theorem r_X8_findTrees {l : Launch} {E : EV} {a : Nat → Nat} {o : Nat} {c_seed : Int32} {c_is c_sightOne c_sightOther : Nat → Int32} {c_sights : Int32} {c_pad : Nat → Int32} {c_padMany : Int32} {c_act c_which c_key c_other : Nat → Int32} {c_acts : Int32} {c_order : Nat → Int32} {c_digest : Nat → Int64} {c_tall c_had : Nat → Int32} {c_badAct c_badWhy c_alikeAct c_alikeTwo c_work c_isWorked : Int32} {c_trees : Nat → Int64} {c_from c_upTo : Nat → Int32} {c_shape : Nat → Int64} {c_kept c_isKept : Nat → Int32} {c_keptAt c_isWriting : Int32}  {R : (Nat → Int64)} (h : f_X8_findTrees c_seed c_is c_trees = some R) : Ret1 l E yX8_findTrees cX8_findTrees 2 none 5 (wX8 E a o c_seed c_is c_sightOne c_sightOther c_sights c_pad c_padMany c_act c_which c_key c_other c_acts c_order c_digest c_tall c_had c_badAct c_badWhy c_alikeAct c_alikeTwo c_work c_isWorked c_trees c_from c_upTo c_shape c_kept c_isKept c_keptAt c_isWriting) [.ref (a o)] none (wX8 E a o c_seed c_is c_sightOne c_sightOther c_sights c_pad c_padMany c_act c_which c_key c_other c_acts c_order c_digest c_tall c_had c_badAct c_badWhy c_alikeAct c_alikeTwo c_work c_isWorked R c_from c_upTo c_shape c_kept c_isKept c_keptAt c_isWriting) := by
  refine Ret.intro (lv := [(0, .ref (a o))]) (by decide) (Nat.le_of_ble_eq_true rfl) rfl ?_
  intro g hgl G hQ
  subst hgl
  rw [f_X8_findTrees] at h
  refine w_iconst (pc2 := 1) G dX8_findTrees_0 k_iconst_0 rfl ?_
  refine w_istore_n (pc2 := 2) (lv2 := [(1, .int (0 : Int32)), (0, .ref (a o))]) G dX8_findTrees_1 rfl (Nat.le_of_ble_eq_true rfl) rfl rfl ?_
  obtain ⟨x1, h0, h⟩ := bs h
  have K_x1 : WW g E 2 0 0 (wX8 E a o c_seed c_is c_sightOne c_sightOther c_sights c_pad c_padMany c_act c_which c_key c_other c_acts c_order c_digest c_tall c_had c_badAct c_badWhy c_alikeAct c_alikeTwo c_work c_isWorked x1 c_from c_upTo c_shape c_kept c_isKept c_keptAt c_isWriting) [] 47 [] := by
    clear h0
    cases h
    exact w_vret G hQ rfl ⟨rfl, rfl⟩ dX8_findTrees_47
  exact w_lv [1, 0] rfl (lp_X8_findTrees_2 G 20000 _ _ _ _ _ h0 (w_lv [] rfl K_x1))

set_option maxHeartbeats 4000000 in
set_option maxRecDepth 100000 in
theorem lp_X8_workNow_4 {g : CX} {E : EV} {a : Nat → Nat} {o : Nat} {c_sightOne c_sightOther : Nat → Int32} {c_sights : Int32} {c_pad : Nat → Int32} {c_padMany : Int32} {c_act c_which c_key c_other : Nat → Int32} {c_acts : Int32} {c_order : Nat → Int32} {c_digest : Nat → Int64} {c_tall c_had : Nat → Int32} {c_badAct c_badWhy c_alikeAct c_alikeTwo c_work c_isWorked : Int32} {c_from c_upTo : Nat → Int32} {c_shape : Nat → Int64} {c_kept c_isKept : Nat → Int32} {c_keptAt c_isWriting : Int32}  (G : GG g E RX8 cX8_workNow 3 (some .int) 5 0 0) : ∀ (n : Nat) (c_seed : Int32) (c_is : Nat → Int32) (c_trees : Nat → Int64) (l1 : Int32) (l2 : Int32) (R : Int32), L_X8_workNow_4 n c_seed c_is c_trees l1 l2 = some R → WW g E 3 0 0 (wX8 E a o c_seed c_is c_sightOne c_sightOther c_sights c_pad c_padMany c_act c_which c_key c_other c_acts c_order c_digest c_tall c_had c_badAct c_badWhy c_alikeAct c_alikeTwo c_work c_isWorked c_trees c_from c_upTo c_shape c_kept c_isKept c_keptAt c_isWriting) [(1, .int R)] 57 [] → WW g E 3 0 0 (wX8 E a o c_seed c_is c_sightOne c_sightOther c_sights c_pad c_padMany c_act c_which c_key c_other c_acts c_order c_digest c_tall c_had c_badAct c_badWhy c_alikeAct c_alikeTwo c_work c_isWorked c_trees c_from c_upTo c_shape c_kept c_isKept c_keptAt c_isWriting) [(0, .ref (a o)), (1, .int l1), (2, .int l2)] 4 [] := by
  intro n
  induction n with
  | zero => intro c_seed c_is c_trees l1 l2 R h; exact no_some h
  | succ n ih =>
    intro c_seed c_is c_trees l1 l2 R h K
    rw [L_X8_workNow_4] at h
    refine w_iload_n (pc2 := 5) G 2 rfl dX8_workNow_4 rfl rfl ?_
    refine w_sipush (pc2 := 8) G dX8_workNow_5 k_sipush_200 rfl ?_
    refine w_icmp_ge (tgt := 57) (pc2 := 11) G dX8_workNow_8 (by decide) rfl (fun cc => ?_) (fun cc => ?_)
    · replace h := (if_pos cc).symm.trans h
      cases h
      exact w_lv [1] rfl K
    · replace h := (if_neg cc).symm.trans h
      refine w_iload_n (pc2 := 12) G 1 rfl dX8_workNow_11 rfl rfl ?_
      refine w_aload_n (pc2 := 13) G 0 rfl dX8_workNow_12 rfl rfl ?_
      refine w_get (pc2 := 16) G foX8_7 0 rfl rfl dX8_workNow_13 rfl ?_
      refine w_iload_n (pc2 := 17) G 2 rfl dX8_workNow_16 rfl rfl ?_
      obtain ⟨v1, H_v1, h⟩ := bs h
      refine w_ialdo (pc2 := 18) G 1 rfl H_v1 dX8_workNow_17 rfl ?_
      refine w_iconst (pc2 := 19) G dX8_workNow_18 k_iconst_1 rfl ?_
      refine w_icmp_ne (tgt := 48) (pc2 := 22) G dX8_workNow_19 (by decide) rfl (fun cc => ?_) (fun cc => ?_)
      · replace h := (if_neg cc).symm.trans h
        refine w_iconst (pc2 := 49) G dX8_workNow_48 k_iconst_0 rfl ?_
        refine w_iadd (pc2 := 50) G dX8_workNow_49 rfl ?_
        refine w_istore_n (pc2 := 51) (lv2 := [(1, .int (l1 + (0 : Int32))), (0, .ref (a o)), (2, .int l2)]) G dX8_workNow_50 rfl (Nat.le_of_ble_eq_true rfl) rfl rfl ?_
        refine w_iinc (pc2 := 54) (lv2 := [(2, .int (l2 + (1 : Int32))), (1, .int (l1 + (0 : Int32))), (0, .ref (a o))]) G 2 rfl dX8_workNow_51 k_iconst_1 (Nat.le_of_ble_eq_true rfl) rfl rfl ?_
        refine w_goto (tgt := 4) G dX8_workNow_54 (by decide) ?_
        exact w_lv [2, 1, 0] rfl (ih _ _ _ _ _ _ h K)
      · replace h := (if_pos cc).symm.trans h
        refine w_aload_n (pc2 := 23) G 0 rfl dX8_workNow_22 rfl rfl ?_
        refine w_iload_n (pc2 := 24) G 2 rfl dX8_workNow_23 rfl rfl ?_
        refine w_bipush (pc2 := 26) G dX8_workNow_24 k_bipush_50 rfl ?_
        refine w_idiv (pc2 := 27) G dX8_workNow_26 (by decide) rfl ?_
        refine w_iload_n (pc2 := 28) G 2 rfl dX8_workNow_27 rfl rfl ?_
        refine w_bipush (pc2 := 30) G dX8_workNow_28 k_bipush_50 rfl ?_
        refine w_irem (pc2 := 31) G dX8_workNow_30 (by decide) rfl ?_
        obtain ⟨x2, H_x2, h⟩ := bs h
        refine w_cV0 (pc2 := 34) (ws2 := (wX8 E a o c_seed c_is c_sightOne c_sightOther c_sights c_pad c_padMany c_act c_which c_key c_other c_acts c_order c_digest c_tall c_had c_badAct c_badWhy c_alikeAct c_alikeTwo c_work c_isWorked c_trees c_from c_upTo c_shape c_kept c_isKept c_keptAt c_isWriting)) (As := [.int (l2 / (50 : Int32)), .int (l2 - l2 / (50 : Int32) * (50 : Int32))]) (rest := [.int l1]) G koX8_193 (r_X8_treeOf H_x2) (Nat.le_of_ble_eq_true rfl) 8 rfl rfl rfl rfl (Nat.le_of_ble_eq_true rfl) ⟨Nat.zero_le _, Nat.zero_le _⟩ dX8_workNow_31 rfl rfl ?_
        refine w_aload_n (pc2 := 35) G 0 rfl dX8_workNow_34 rfl rfl ?_
        refine w_get (pc2 := 38) G foX8_47 0 rfl rfl dX8_workNow_35 rfl ?_
        refine w_iload_n (pc2 := 39) G 2 rfl dX8_workNow_38 rfl rfl ?_
        obtain ⟨v3, H_v3, h⟩ := bs h
        refine w_laldo (pc2 := 40) G 13 rfl H_v3 dX8_workNow_39 rfl ?_
        refine w_lcmp (pc2 := 41) G dX8_workNow_40 rfl ?_
        refine w_if_eq (tgt := 48) (pc2 := 44) G dX8_workNow_41 (by decide) rfl (fun cc => ?_) (fun cc => ?_)
        · replace h := (if_pos cc).symm.trans h
          refine w_iconst (pc2 := 49) G dX8_workNow_48 k_iconst_0 rfl ?_
          refine w_iadd (pc2 := 50) G dX8_workNow_49 rfl ?_
          refine w_istore_n (pc2 := 51) (lv2 := [(1, .int (l1 + (0 : Int32))), (0, .ref (a o)), (2, .int l2)]) G dX8_workNow_50 rfl (Nat.le_of_ble_eq_true rfl) rfl rfl ?_
          refine w_iinc (pc2 := 54) (lv2 := [(2, .int (l2 + (1 : Int32))), (1, .int (l1 + (0 : Int32))), (0, .ref (a o))]) G 2 rfl dX8_workNow_51 k_iconst_1 (Nat.le_of_ble_eq_true rfl) rfl rfl ?_
          refine w_goto (tgt := 4) G dX8_workNow_54 (by decide) ?_
          exact w_lv [2, 1, 0] rfl (ih _ _ _ _ _ _ h K)
        · replace h := (if_neg cc).symm.trans h
          refine w_iconst (pc2 := 45) G dX8_workNow_44 k_iconst_1 rfl ?_
          refine w_goto (tgt := 49) G dX8_workNow_45 (by decide) ?_
          refine w_iadd (pc2 := 50) G dX8_workNow_49 rfl ?_
          refine w_istore_n (pc2 := 51) (lv2 := [(1, .int (l1 + (1 : Int32))), (0, .ref (a o)), (2, .int l2)]) G dX8_workNow_50 rfl (Nat.le_of_ble_eq_true rfl) rfl rfl ?_
          refine w_iinc (pc2 := 54) (lv2 := [(2, .int (l2 + (1 : Int32))), (1, .int (l1 + (1 : Int32))), (0, .ref (a o))]) G 2 rfl dX8_workNow_51 k_iconst_1 (Nat.le_of_ble_eq_true rfl) rfl rfl ?_
          refine w_goto (tgt := 4) G dX8_workNow_54 (by decide) ?_
          exact w_lv [2, 1, 0] rfl (ih _ _ _ _ _ _ h K)
set_option maxHeartbeats 4000000 in
set_option maxRecDepth 100000 in
theorem r_X8_workNow {l : Launch} {E : EV} {a : Nat → Nat} {o : Nat} {c_seed : Int32} {c_is c_sightOne c_sightOther : Nat → Int32} {c_sights : Int32} {c_pad : Nat → Int32} {c_padMany : Int32} {c_act c_which c_key c_other : Nat → Int32} {c_acts : Int32} {c_order : Nat → Int32} {c_digest : Nat → Int64} {c_tall c_had : Nat → Int32} {c_badAct c_badWhy c_alikeAct c_alikeTwo c_work c_isWorked : Int32} {c_trees : Nat → Int64} {c_from c_upTo : Nat → Int32} {c_shape : Nat → Int64} {c_kept c_isKept : Nat → Int32} {c_keptAt c_isWriting : Int32}  {R : Int32} (h : f_X8_workNow c_seed c_is c_trees = some R) : Ret1 l E yX8_workNow cX8_workNow 3 (some .int) 5 (wX8 E a o c_seed c_is c_sightOne c_sightOther c_sights c_pad c_padMany c_act c_which c_key c_other c_acts c_order c_digest c_tall c_had c_badAct c_badWhy c_alikeAct c_alikeTwo c_work c_isWorked c_trees c_from c_upTo c_shape c_kept c_isKept c_keptAt c_isWriting) [.ref (a o)] (some (.int R)) (wX8 E a o c_seed c_is c_sightOne c_sightOther c_sights c_pad c_padMany c_act c_which c_key c_other c_acts c_order c_digest c_tall c_had c_badAct c_badWhy c_alikeAct c_alikeTwo c_work c_isWorked c_trees c_from c_upTo c_shape c_kept c_isKept c_keptAt c_isWriting) := by
  refine Ret.intro (lv := [(0, .ref (a o))]) (by decide) (Nat.le_of_ble_eq_true rfl) rfl ?_
  intro g hgl G hQ
  subst hgl
  rw [f_X8_workNow] at h
  refine w_iconst (pc2 := 1) G dX8_workNow_0 k_iconst_0 rfl ?_
  refine w_istore_n (pc2 := 2) (lv2 := [(1, .int (0 : Int32)), (0, .ref (a o))]) G dX8_workNow_1 rfl (Nat.le_of_ble_eq_true rfl) rfl rfl ?_
  refine w_iconst (pc2 := 3) G dX8_workNow_2 k_iconst_0 rfl ?_
  refine w_istore_n (pc2 := 4) (lv2 := [(2, .int (0 : Int32)), (1, .int (0 : Int32)), (0, .ref (a o))]) G dX8_workNow_3 rfl (Nat.le_of_ble_eq_true rfl) rfl rfl ?_
  obtain ⟨x1, h0, h⟩ := bs h
  have K_x1 : WW g E 3 0 0 (wX8 E a o c_seed c_is c_sightOne c_sightOther c_sights c_pad c_padMany c_act c_which c_key c_other c_acts c_order c_digest c_tall c_had c_badAct c_badWhy c_alikeAct c_alikeTwo c_work c_isWorked c_trees c_from c_upTo c_shape c_kept c_isKept c_keptAt c_isWriting) [(1, .int x1)] 57 [] := by
    clear h0
    refine w_iload_n (pc2 := 58) G 0 rfl dX8_workNow_57 rfl rfl ?_
    cases h
    exact w_iret G hQ rfl ⟨rfl, rfl⟩ dX8_workNow_58
  exact w_lv [2, 1, 0] rfl (lp_X8_workNow_4 G 20000 _ _ _ _ _ _ h0 (w_lv [0] rfl K_x1))

set_option maxHeartbeats 4000000 in
set_option maxRecDepth 100000 in
theorem lp_X8_areAlike_17 {g : CX} {E : EV} {a : Nat → Nat} {o : Nat} {c_seed : Int32} {c_sightOne c_sightOther : Nat → Int32} {c_sights : Int32} {c_pad : Nat → Int32} {c_padMany : Int32} {c_act c_which c_key c_other : Nat → Int32} {c_acts : Int32} {c_order : Nat → Int32} {c_digest : Nat → Int64} {c_tall c_had : Nat → Int32} {c_badAct c_badWhy c_alikeAct c_alikeTwo c_work c_isWorked : Int32} {c_trees : Nat → Int64} {c_from c_upTo : Nat → Int32} {c_shape : Nat → Int64} {c_kept c_isKept : Nat → Int32} {c_keptAt c_isWriting : Int32}  (G : GG g E RX8 cX8_areAlike 5 (some .boolean) 1 0 0) : ∀ (n : Nat) (c_is : Nat → Int32) (l1 : Int32) (l2 : Int32) (l3 : Int32) (l4 : Int32) (R : Int32), L_X8_areAlike_17 n c_is l1 l2 l3 l4 = some R → WW g E 5 0 0 (wX8 E a o c_seed c_is c_sightOne c_sightOther c_sights c_pad c_padMany c_act c_which c_key c_other c_acts c_order c_digest c_tall c_had c_badAct c_badWhy c_alikeAct c_alikeTwo c_work c_isWorked c_trees c_from c_upTo c_shape c_kept c_isKept c_keptAt c_isWriting) [(3, .int R)] 57 [] → WW g E 5 0 0 (wX8 E a o c_seed c_is c_sightOne c_sightOther c_sights c_pad c_padMany c_act c_which c_key c_other c_acts c_order c_digest c_tall c_had c_badAct c_badWhy c_alikeAct c_alikeTwo c_work c_isWorked c_trees c_from c_upTo c_shape c_kept c_isKept c_keptAt c_isWriting) [(0, .ref (a o)), (1, .int l1), (2, .int l2), (3, .int l3), (4, .int l4)] 17 [] := by
  intro n
  induction n with
  | zero => intro c_is l1 l2 l3 l4 R h; exact no_some h
  | succ n ih =>
    intro c_is l1 l2 l3 l4 R h K
    rw [L_X8_areAlike_17] at h
    refine w_iload (pc2 := 19) G 4 rfl dX8_areAlike_17 rfl ?_
    refine w_bipush (pc2 := 21) G dX8_areAlike_19 k_bipush_50 rfl ?_
    refine w_icmp_ge (tgt := 57) (pc2 := 24) G dX8_areAlike_21 (by decide) rfl (fun cc => ?_) (fun cc => ?_)
    · replace h := (if_pos cc).symm.trans h
      cases h
      exact w_lv [3] rfl K
    · replace h := (if_neg cc).symm.trans h
      refine w_iload_n (pc2 := 25) G 3 rfl dX8_areAlike_24 rfl rfl ?_
      refine w_if_eq (tgt := 49) (pc2 := 28) G dX8_areAlike_25 (by decide) rfl (fun cc => ?_) (fun cc => ?_)
      · replace h := (if_pos cc).symm.trans h
        refine w_iconst (pc2 := 50) G dX8_areAlike_49 k_iconst_0 rfl ?_
        refine w_istore_n (pc2 := 51) (lv2 := [(3, .int (0 : Int32)), (0, .ref (a o)), (1, .int l1), (2, .int l2), (4, .int l4)]) G dX8_areAlike_50 rfl (Nat.le_of_ble_eq_true rfl) rfl rfl ?_
        refine w_iinc (pc2 := 54) (lv2 := [(4, .int (l4 + (1 : Int32))), (3, .int (0 : Int32)), (0, .ref (a o)), (1, .int l1), (2, .int l2)]) G 4 rfl dX8_areAlike_51 k_iconst_1 (Nat.le_of_ble_eq_true rfl) rfl rfl ?_
        refine w_goto (tgt := 17) G dX8_areAlike_54 (by decide) ?_
        exact w_lv [2, 3, 4, 1, 0] rfl (ih _ _ _ _ _ _ h K)
      · replace h := (if_neg cc).symm.trans h
        refine w_aload_n (pc2 := 29) G 0 rfl dX8_areAlike_28 rfl rfl ?_
        refine w_iload_n (pc2 := 30) G 1 rfl dX8_areAlike_29 rfl rfl ?_
        refine w_iload (pc2 := 32) G 4 rfl dX8_areAlike_30 rfl ?_
        obtain ⟨x1, H_x1, h⟩ := bs h
        refine w_cV0 (pc2 := 35) (ws2 := (wX8 E a o c_seed c_is c_sightOne c_sightOther c_sights c_pad c_padMany c_act c_which c_key c_other c_acts c_order c_digest c_tall c_had c_badAct c_badWhy c_alikeAct c_alikeTwo c_work c_isWorked c_trees c_from c_upTo c_shape c_kept c_isKept c_keptAt c_isWriting)) (As := [.int l1, .int l4]) (rest := []) G koX8_95 (r_X8_has H_x1) (Nat.le_of_ble_eq_true rfl) 8 rfl rfl rfl rfl (Nat.le_of_ble_eq_true rfl) ⟨Nat.zero_le _, Nat.zero_le _⟩ dX8_areAlike_32 rfl rfl ?_
        refine w_aload_n (pc2 := 36) G 0 rfl dX8_areAlike_35 rfl rfl ?_
        refine w_iload_n (pc2 := 37) G 2 rfl dX8_areAlike_36 rfl rfl ?_
        refine w_iload (pc2 := 39) G 4 rfl dX8_areAlike_37 rfl ?_
        obtain ⟨x2, H_x2, h⟩ := bs h
        refine w_cV0 (pc2 := 42) (ws2 := (wX8 E a o c_seed c_is c_sightOne c_sightOther c_sights c_pad c_padMany c_act c_which c_key c_other c_acts c_order c_digest c_tall c_had c_badAct c_badWhy c_alikeAct c_alikeTwo c_work c_isWorked c_trees c_from c_upTo c_shape c_kept c_isKept c_keptAt c_isWriting)) (As := [.int l2, .int l4]) (rest := [.int x1]) G koX8_95 (r_X8_has H_x2) (Nat.le_of_ble_eq_true rfl) 8 rfl rfl rfl rfl (Nat.le_of_ble_eq_true rfl) ⟨Nat.zero_le _, Nat.zero_le _⟩ dX8_areAlike_39 rfl rfl ?_
        refine w_icmp_ne (tgt := 49) (pc2 := 45) G dX8_areAlike_42 (by decide) rfl (fun cc => ?_) (fun cc => ?_)
        · replace h := (if_neg cc).symm.trans h
          refine w_iconst (pc2 := 50) G dX8_areAlike_49 k_iconst_0 rfl ?_
          refine w_istore_n (pc2 := 51) (lv2 := [(3, .int (0 : Int32)), (0, .ref (a o)), (1, .int l1), (2, .int l2), (4, .int l4)]) G dX8_areAlike_50 rfl (Nat.le_of_ble_eq_true rfl) rfl rfl ?_
          refine w_iinc (pc2 := 54) (lv2 := [(4, .int (l4 + (1 : Int32))), (3, .int (0 : Int32)), (0, .ref (a o)), (1, .int l1), (2, .int l2)]) G 4 rfl dX8_areAlike_51 k_iconst_1 (Nat.le_of_ble_eq_true rfl) rfl rfl ?_
          refine w_goto (tgt := 17) G dX8_areAlike_54 (by decide) ?_
          exact w_lv [2, 3, 4, 1, 0] rfl (ih _ _ _ _ _ _ h K)
        · replace h := (if_pos cc).symm.trans h
          refine w_iconst (pc2 := 46) G dX8_areAlike_45 k_iconst_1 rfl ?_
          refine w_goto (tgt := 50) G dX8_areAlike_46 (by decide) ?_
          refine w_istore_n (pc2 := 51) (lv2 := [(3, .int (1 : Int32)), (0, .ref (a o)), (1, .int l1), (2, .int l2), (4, .int l4)]) G dX8_areAlike_50 rfl (Nat.le_of_ble_eq_true rfl) rfl rfl ?_
          refine w_iinc (pc2 := 54) (lv2 := [(4, .int (l4 + (1 : Int32))), (3, .int (1 : Int32)), (0, .ref (a o)), (1, .int l1), (2, .int l2)]) G 4 rfl dX8_areAlike_51 k_iconst_1 (Nat.le_of_ble_eq_true rfl) rfl rfl ?_
          refine w_goto (tgt := 17) G dX8_areAlike_54 (by decide) ?_
          exact w_lv [2, 3, 4, 1, 0] rfl (ih _ _ _ _ _ _ h K)
set_option maxHeartbeats 4000000 in
set_option maxRecDepth 100000 in
theorem r_X8_areAlike {l : Launch} {E : EV} {a : Nat → Nat} {o : Nat} {c_seed : Int32} {c_is c_sightOne c_sightOther : Nat → Int32} {c_sights : Int32} {c_pad : Nat → Int32} {c_padMany : Int32} {c_act c_which c_key c_other : Nat → Int32} {c_acts : Int32} {c_order : Nat → Int32} {c_digest : Nat → Int64} {c_tall c_had : Nat → Int32} {c_badAct c_badWhy c_alikeAct c_alikeTwo c_work c_isWorked : Int32} {c_trees : Nat → Int64} {c_from c_upTo : Nat → Int32} {c_shape : Nat → Int64} {c_kept c_isKept : Nat → Int32} {c_keptAt c_isWriting : Int32} {l1 : Int32} {l2 : Int32} {R : Int32} (h : f_X8_areAlike c_is l1 l2 = some R) : Ret1 l E yX8_areAlike cX8_areAlike 5 (some .boolean) 1 (wX8 E a o c_seed c_is c_sightOne c_sightOther c_sights c_pad c_padMany c_act c_which c_key c_other c_acts c_order c_digest c_tall c_had c_badAct c_badWhy c_alikeAct c_alikeTwo c_work c_isWorked c_trees c_from c_upTo c_shape c_kept c_isKept c_keptAt c_isWriting) [.ref (a o), .int l1, .int l2] (some (.int R)) (wX8 E a o c_seed c_is c_sightOne c_sightOther c_sights c_pad c_padMany c_act c_which c_key c_other c_acts c_order c_digest c_tall c_had c_badAct c_badWhy c_alikeAct c_alikeTwo c_work c_isWorked c_trees c_from c_upTo c_shape c_kept c_isKept c_keptAt c_isWriting) := by
  refine Ret.intro (lv := [(0, .ref (a o)), (1, .int l1), (2, .int l2)]) (by decide) (Nat.le_of_ble_eq_true rfl) rfl ?_
  intro g hgl G hQ
  subst hgl
  rw [f_X8_areAlike] at h
  refine w_aload_n (pc2 := 1) G 0 rfl dX8_areAlike_0 rfl rfl ?_
  refine w_iload_n (pc2 := 2) G 1 rfl dX8_areAlike_1 rfl rfl ?_
  obtain ⟨x1, H_x1, h⟩ := bs h
  refine w_cV0 (pc2 := 5) (ws2 := (wX8 E a o c_seed c_is c_sightOne c_sightOther c_sights c_pad c_padMany c_act c_which c_key c_other c_acts c_order c_digest c_tall c_had c_badAct c_badWhy c_alikeAct c_alikeTwo c_work c_isWorked c_trees c_from c_upTo c_shape c_kept c_isKept c_keptAt c_isWriting)) (As := [.int l1]) (rest := []) G koX8_99 (r_X8_many H_x1) (Nat.le_of_ble_eq_true rfl) 8 rfl rfl rfl rfl (Nat.le_of_ble_eq_true rfl) ⟨Nat.zero_le _, Nat.zero_le _⟩ dX8_areAlike_2 rfl rfl ?_
  obtain ⟨x2, h0, h⟩ := bs h
  have K_x2 : WW g E 5 0 0 (wX8 E a o c_seed c_is c_sightOne c_sightOther c_sights c_pad c_padMany c_act c_which c_key c_other c_acts c_order c_digest c_tall c_had c_badAct c_badWhy c_alikeAct c_alikeTwo c_work c_isWorked c_trees c_from c_upTo c_shape c_kept c_isKept c_keptAt c_isWriting) [(0, .ref (a o)), (1, .int l1), (2, .int l2)] 13 [.int x2] := by
    clear h0
    refine w_istore_n (pc2 := 14) (lv2 := [(3, .int x2), (0, .ref (a o)), (1, .int l1), (2, .int l2)]) G dX8_areAlike_13 rfl (Nat.le_of_ble_eq_true rfl) rfl rfl ?_
    refine w_iconst (pc2 := 15) G dX8_areAlike_14 k_iconst_0 rfl ?_
    refine w_istore (pc2 := 17) (lv2 := [(4, .int (0 : Int32)), (3, .int x2), (0, .ref (a o)), (1, .int l1), (2, .int l2)]) G dX8_areAlike_15 (Nat.le_of_ble_eq_true rfl) rfl rfl ?_
    obtain ⟨x3, h0, h⟩ := bs h
    have K_x3 : WW g E 5 0 0 (wX8 E a o c_seed c_is c_sightOne c_sightOther c_sights c_pad c_padMany c_act c_which c_key c_other c_acts c_order c_digest c_tall c_had c_badAct c_badWhy c_alikeAct c_alikeTwo c_work c_isWorked c_trees c_from c_upTo c_shape c_kept c_isKept c_keptAt c_isWriting) [(3, .int x3)] 57 [] := by
      clear h0
      refine w_iload_n (pc2 := 58) G 0 rfl dX8_areAlike_57 rfl rfl ?_
      obtain ⟨v4, H_v4, h⟩ := bs h
      cases h
      exact w_zret G hQ rfl (bz_some H_v4) ⟨rfl, rfl⟩ dX8_areAlike_58
    exact w_lv [2, 3, 4, 1, 0] rfl (lp_X8_areAlike_17 G 20000 _ _ _ _ _ _ h0 (w_lv [0] rfl K_x3))
  replace h := h0
  clear h0
  refine w_if_le (tgt := 12) (pc2 := 8) G dX8_areAlike_5 (by decide) rfl (fun cc => ?_) (fun cc => ?_)
  · replace h := (if_pos cc).symm.trans h
    refine w_iconst (pc2 := 13) G dX8_areAlike_12 k_iconst_0 rfl ?_
    cases h
    exact w_lv [0, 1, 2] rfl K_x2
  · replace h := (if_neg cc).symm.trans h
    refine w_iconst (pc2 := 9) G dX8_areAlike_8 k_iconst_1 rfl ?_
    refine w_goto (tgt := 13) G dX8_areAlike_9 (by decide) ?_
    cases h
    exact w_lv [0, 1, 2] rfl K_x2

set_option maxHeartbeats 4000000 in
set_option maxRecDepth 100000 in
theorem lp_X8_alikeOnes_13 {g : CX} {E : EV} {a : Nat → Nat} {o : Nat} {c_seed : Int32} {c_sightOne c_sightOther : Nat → Int32} {c_sights : Int32} {c_pad : Nat → Int32} {c_padMany : Int32} {c_act c_which c_key c_other : Nat → Int32} {c_acts : Int32} {c_order : Nat → Int32} {c_digest : Nat → Int64} {c_tall c_had : Nat → Int32} {c_badAct c_badWhy c_alikeAct c_alikeTwo c_work c_isWorked : Int32} {c_trees : Nat → Int64} {c_from c_upTo : Nat → Int32} {c_shape : Nat → Int64} {c_kept c_isKept : Nat → Int32} {c_keptAt c_isWriting : Int32}  (G : GG g E RX8 cX8_alikeOnes 4 (some .int) 2 0 0) : ∀ (n : Nat) (c_is : Nat → Int32) (l1 : Int32) (l2 : Int32) (l3 : Int32) (R : Int32), L_X8_alikeOnes_13 n c_is l1 l2 l3 = some R → WW g E 4 0 0 (wX8 E a o c_seed c_is c_sightOne c_sightOther c_sights c_pad c_padMany c_act c_which c_key c_other c_acts c_order c_digest c_tall c_had c_badAct c_badWhy c_alikeAct c_alikeTwo c_work c_isWorked c_trees c_from c_upTo c_shape c_kept c_isKept c_keptAt c_isWriting) [(0, .ref (a o)), (2, .int l2), (1, .int R)] 47 [] → WW g E 4 0 0 (wX8 E a o c_seed c_is c_sightOne c_sightOther c_sights c_pad c_padMany c_act c_which c_key c_other c_acts c_order c_digest c_tall c_had c_badAct c_badWhy c_alikeAct c_alikeTwo c_work c_isWorked c_trees c_from c_upTo c_shape c_kept c_isKept c_keptAt c_isWriting) [(0, .ref (a o)), (1, .int l1), (2, .int l2), (3, .int l3)] 13 [] := by
  intro n
  induction n with
  | zero => intro c_is l1 l2 l3 R h; exact no_some h
  | succ n ih =>
    intro c_is l1 l2 l3 R h K
    rw [L_X8_alikeOnes_13] at h
    refine w_iload_n (pc2 := 14) G 3 rfl dX8_alikeOnes_13 rfl rfl ?_
    refine w_iconst (pc2 := 15) G dX8_alikeOnes_14 k_iconst_4 rfl ?_
    refine w_icmp_ge (tgt := 47) (pc2 := 18) G dX8_alikeOnes_15 (by decide) rfl (fun cc => ?_) (fun cc => ?_)
    · replace h := (if_pos cc).symm.trans h
      cases h
      exact w_lv [0, 2, 1] rfl K
    · replace h := (if_neg cc).symm.trans h
      refine w_iload_n (pc2 := 19) G 1 rfl dX8_alikeOnes_18 rfl rfl ?_
      refine w_aload_n (pc2 := 20) G 0 rfl dX8_alikeOnes_19 rfl rfl ?_
      refine w_iload_n (pc2 := 21) G 2 rfl dX8_alikeOnes_20 rfl rfl ?_
      refine w_iload_n (pc2 := 22) G 3 rfl dX8_alikeOnes_21 rfl rfl ?_
      obtain ⟨x1, H_x1, h⟩ := bs h
      refine w_cV0 (pc2 := 25) (ws2 := (wX8 E a o c_seed c_is c_sightOne c_sightOther c_sights c_pad c_padMany c_act c_which c_key c_other c_acts c_order c_digest c_tall c_had c_badAct c_badWhy c_alikeAct c_alikeTwo c_work c_isWorked c_trees c_from c_upTo c_shape c_kept c_isKept c_keptAt c_isWriting)) (As := [.int l2, .int l3]) (rest := [.int l1]) G koX8_197 (r_X8_areAlike H_x1) (Nat.le_of_ble_eq_true rfl) 8 rfl rfl rfl rfl (Nat.le_of_ble_eq_true rfl) ⟨Nat.zero_le _, Nat.zero_le _⟩ dX8_alikeOnes_22 rfl rfl ?_
      refine w_if_eq (tgt := 38) (pc2 := 28) G dX8_alikeOnes_25 (by decide) rfl (fun cc => ?_) (fun cc => ?_)
      · replace h := (if_pos cc).symm.trans h
        refine w_iconst (pc2 := 39) G dX8_alikeOnes_38 k_iconst_0 rfl ?_
        refine w_ior (pc2 := 40) G dX8_alikeOnes_39 rfl ?_
        refine w_istore_n (pc2 := 41) (lv2 := [(1, .int (l1 ||| (0 : Int32))), (0, .ref (a o)), (2, .int l2), (3, .int l3)]) G dX8_alikeOnes_40 rfl (Nat.le_of_ble_eq_true rfl) rfl rfl ?_
        refine w_iinc (pc2 := 44) (lv2 := [(3, .int (l3 + (1 : Int32))), (1, .int (l1 ||| (0 : Int32))), (0, .ref (a o)), (2, .int l2)]) G 3 rfl dX8_alikeOnes_41 k_iconst_1 (Nat.le_of_ble_eq_true rfl) rfl rfl ?_
        refine w_goto (tgt := 13) G dX8_alikeOnes_44 (by decide) ?_
        exact w_lv [2, 1, 3, 0] rfl (ih _ _ _ _ _ h K)
      · replace h := (if_neg cc).symm.trans h
        refine w_iconst (pc2 := 29) G dX8_alikeOnes_28 k_iconst_1 rfl ?_
        refine w_iconst (pc2 := 30) G dX8_alikeOnes_29 k_iconst_4 rfl ?_
        refine w_iload_n (pc2 := 31) G 2 rfl dX8_alikeOnes_30 rfl rfl ?_
        refine w_imul (pc2 := 32) G dX8_alikeOnes_31 rfl ?_
        refine w_iload_n (pc2 := 33) G 3 rfl dX8_alikeOnes_32 rfl rfl ?_
        refine w_iadd (pc2 := 34) G dX8_alikeOnes_33 rfl ?_
        refine w_ishl (pc2 := 35) G dX8_alikeOnes_34 rfl ?_
        refine w_goto (tgt := 39) G dX8_alikeOnes_35 (by decide) ?_
        refine w_ior (pc2 := 40) G dX8_alikeOnes_39 rfl ?_
        refine w_istore_n (pc2 := 41) (lv2 := [(1, .int (l1 ||| ((1 : Int32) <<< ((((4 : Int32) * l2) + l3) &&& 31)))), (0, .ref (a o)), (2, .int l2), (3, .int l3)]) G dX8_alikeOnes_40 rfl (Nat.le_of_ble_eq_true rfl) rfl rfl ?_
        refine w_iinc (pc2 := 44) (lv2 := [(3, .int (l3 + (1 : Int32))), (1, .int (l1 ||| ((1 : Int32) <<< ((((4 : Int32) * l2) + l3) &&& 31)))), (0, .ref (a o)), (2, .int l2)]) G 3 rfl dX8_alikeOnes_41 k_iconst_1 (Nat.le_of_ble_eq_true rfl) rfl rfl ?_
        refine w_goto (tgt := 13) G dX8_alikeOnes_44 (by decide) ?_
        exact w_lv [2, 1, 3, 0] rfl (ih _ _ _ _ _ h K)
set_option maxHeartbeats 4000000 in
set_option maxRecDepth 100000 in
theorem lp_X8_alikeOnes_4 {g : CX} {E : EV} {a : Nat → Nat} {o : Nat} {c_seed : Int32} {c_sightOne c_sightOther : Nat → Int32} {c_sights : Int32} {c_pad : Nat → Int32} {c_padMany : Int32} {c_act c_which c_key c_other : Nat → Int32} {c_acts : Int32} {c_order : Nat → Int32} {c_digest : Nat → Int64} {c_tall c_had : Nat → Int32} {c_badAct c_badWhy c_alikeAct c_alikeTwo c_work c_isWorked : Int32} {c_trees : Nat → Int64} {c_from c_upTo : Nat → Int32} {c_shape : Nat → Int64} {c_kept c_isKept : Nat → Int32} {c_keptAt c_isWriting : Int32}  (G : GG g E RX8 cX8_alikeOnes 4 (some .int) 2 0 0) : ∀ (n : Nat) (c_is : Nat → Int32) (l1 : Int32) (l2 : Int32) (R : Int32), L_X8_alikeOnes_4 n c_is l1 l2 = some R → WW g E 4 0 0 (wX8 E a o c_seed c_is c_sightOne c_sightOther c_sights c_pad c_padMany c_act c_which c_key c_other c_acts c_order c_digest c_tall c_had c_badAct c_badWhy c_alikeAct c_alikeTwo c_work c_isWorked c_trees c_from c_upTo c_shape c_kept c_isKept c_keptAt c_isWriting) [(1, .int R)] 53 [] → WW g E 4 0 0 (wX8 E a o c_seed c_is c_sightOne c_sightOther c_sights c_pad c_padMany c_act c_which c_key c_other c_acts c_order c_digest c_tall c_had c_badAct c_badWhy c_alikeAct c_alikeTwo c_work c_isWorked c_trees c_from c_upTo c_shape c_kept c_isKept c_keptAt c_isWriting) [(0, .ref (a o)), (1, .int l1), (2, .int l2)] 4 [] := by
  intro n
  induction n with
  | zero => intro c_is l1 l2 R h; exact no_some h
  | succ n ih =>
    intro c_is l1 l2 R h K
    rw [L_X8_alikeOnes_4] at h
    refine w_iload_n (pc2 := 5) G 2 rfl dX8_alikeOnes_4 rfl rfl ?_
    refine w_iconst (pc2 := 6) G dX8_alikeOnes_5 k_iconst_4 rfl ?_
    refine w_icmp_ge (tgt := 53) (pc2 := 9) G dX8_alikeOnes_6 (by decide) rfl (fun cc => ?_) (fun cc => ?_)
    · replace h := (if_pos cc).symm.trans h
      cases h
      exact w_lv [1] rfl K
    · replace h := (if_neg cc).symm.trans h
      refine w_iload_n (pc2 := 10) G 2 rfl dX8_alikeOnes_9 rfl rfl ?_
      refine w_iconst (pc2 := 11) G dX8_alikeOnes_10 k_iconst_1 rfl ?_
      refine w_iadd (pc2 := 12) G dX8_alikeOnes_11 rfl ?_
      refine w_istore_n (pc2 := 13) (lv2 := [(3, .int (l2 + (1 : Int32))), (0, .ref (a o)), (1, .int l1), (2, .int l2)]) G dX8_alikeOnes_12 rfl (Nat.le_of_ble_eq_true rfl) rfl rfl ?_
      obtain ⟨x1, h0, h⟩ := bs h
      have K_x1 : WW g E 4 0 0 (wX8 E a o c_seed c_is c_sightOne c_sightOther c_sights c_pad c_padMany c_act c_which c_key c_other c_acts c_order c_digest c_tall c_had c_badAct c_badWhy c_alikeAct c_alikeTwo c_work c_isWorked c_trees c_from c_upTo c_shape c_kept c_isKept c_keptAt c_isWriting) [(0, .ref (a o)), (2, .int l2), (1, .int x1)] 47 [] := by
        clear h0
        refine w_iinc (pc2 := 50) (lv2 := [(2, .int (l2 + (1 : Int32))), (0, .ref (a o)), (1, .int x1)]) G 1 rfl dX8_alikeOnes_47 k_iconst_1 (Nat.le_of_ble_eq_true rfl) rfl rfl ?_
        refine w_goto (tgt := 4) G dX8_alikeOnes_50 (by decide) ?_
        exact w_lv [1, 2, 0] rfl (ih _ _ _ _ h K)
      exact w_lv [1, 2, 3, 0] rfl (lp_X8_alikeOnes_13 G 20000 _ _ _ _ _ h0 (w_lv [0, 1, 2] rfl K_x1))
set_option maxHeartbeats 4000000 in
set_option maxRecDepth 100000 in
theorem r_X8_alikeOnes {l : Launch} {E : EV} {a : Nat → Nat} {o : Nat} {c_seed : Int32} {c_is c_sightOne c_sightOther : Nat → Int32} {c_sights : Int32} {c_pad : Nat → Int32} {c_padMany : Int32} {c_act c_which c_key c_other : Nat → Int32} {c_acts : Int32} {c_order : Nat → Int32} {c_digest : Nat → Int64} {c_tall c_had : Nat → Int32} {c_badAct c_badWhy c_alikeAct c_alikeTwo c_work c_isWorked : Int32} {c_trees : Nat → Int64} {c_from c_upTo : Nat → Int32} {c_shape : Nat → Int64} {c_kept c_isKept : Nat → Int32} {c_keptAt c_isWriting : Int32}  {R : Int32} (h : f_X8_alikeOnes c_is = some R) : Ret1 l E yX8_alikeOnes cX8_alikeOnes 4 (some .int) 2 (wX8 E a o c_seed c_is c_sightOne c_sightOther c_sights c_pad c_padMany c_act c_which c_key c_other c_acts c_order c_digest c_tall c_had c_badAct c_badWhy c_alikeAct c_alikeTwo c_work c_isWorked c_trees c_from c_upTo c_shape c_kept c_isKept c_keptAt c_isWriting) [.ref (a o)] (some (.int R)) (wX8 E a o c_seed c_is c_sightOne c_sightOther c_sights c_pad c_padMany c_act c_which c_key c_other c_acts c_order c_digest c_tall c_had c_badAct c_badWhy c_alikeAct c_alikeTwo c_work c_isWorked c_trees c_from c_upTo c_shape c_kept c_isKept c_keptAt c_isWriting) := by
  refine Ret.intro (lv := [(0, .ref (a o))]) (by decide) (Nat.le_of_ble_eq_true rfl) rfl ?_
  intro g hgl G hQ
  subst hgl
  rw [f_X8_alikeOnes] at h
  refine w_iconst (pc2 := 1) G dX8_alikeOnes_0 k_iconst_0 rfl ?_
  refine w_istore_n (pc2 := 2) (lv2 := [(1, .int (0 : Int32)), (0, .ref (a o))]) G dX8_alikeOnes_1 rfl (Nat.le_of_ble_eq_true rfl) rfl rfl ?_
  refine w_iconst (pc2 := 3) G dX8_alikeOnes_2 k_iconst_0 rfl ?_
  refine w_istore_n (pc2 := 4) (lv2 := [(2, .int (0 : Int32)), (1, .int (0 : Int32)), (0, .ref (a o))]) G dX8_alikeOnes_3 rfl (Nat.le_of_ble_eq_true rfl) rfl rfl ?_
  obtain ⟨x1, h0, h⟩ := bs h
  have K_x1 : WW g E 4 0 0 (wX8 E a o c_seed c_is c_sightOne c_sightOther c_sights c_pad c_padMany c_act c_which c_key c_other c_acts c_order c_digest c_tall c_had c_badAct c_badWhy c_alikeAct c_alikeTwo c_work c_isWorked c_trees c_from c_upTo c_shape c_kept c_isKept c_keptAt c_isWriting) [(1, .int x1)] 53 [] := by
    clear h0
    refine w_iload_n (pc2 := 54) G 0 rfl dX8_alikeOnes_53 rfl rfl ?_
    cases h
    exact w_iret G hQ rfl ⟨rfl, rfl⟩ dX8_alikeOnes_54
  exact w_lv [2, 1, 0] rfl (lp_X8_alikeOnes_4 G 20000 _ _ _ _ h0 (w_lv [0] rfl K_x1))

set_option maxHeartbeats 4000000 in
set_option maxRecDepth 100000 in
theorem lp_X8_leastOf_2 {g : CX} {E : EV}   (G : GG g E RX8 cX8_leastOf 2 (some .int) 0 0 0) : ∀ (n : Nat) (l0 : Int32) (l1 : Int32) (R : Int32), L_X8_leastOf_2 n l0 l1 = some R → WW g E 2 0 0 [] [(1, .int R)] 16 [] → WW g E 2 0 0 [] [(0, .int l0), (1, .int l1)] 2 [] := by
  intro n
  induction n with
  | zero => intro l0 l1 R h; exact no_some h
  | succ n ih =>
    intro l0 l1 R h K
    rw [L_X8_leastOf_2] at h
    refine w_iload_n (pc2 := 3) G 0 rfl dX8_leastOf_2 rfl rfl ?_
    refine w_iload_n (pc2 := 4) G 1 rfl dX8_leastOf_3 rfl rfl ?_
    refine w_ishr (pc2 := 5) G dX8_leastOf_4 rfl ?_
    refine w_iconst (pc2 := 6) G dX8_leastOf_5 k_iconst_1 rfl ?_
    refine w_iand (pc2 := 7) G dX8_leastOf_6 rfl ?_
    refine w_if_ne (tgt := 16) (pc2 := 10) G dX8_leastOf_7 (by decide) rfl (fun cc => ?_) (fun cc => ?_)
    · replace h := (if_neg cc).symm.trans h
      cases h
      exact w_lv [1] rfl K
    · replace h := (if_pos cc).symm.trans h
      refine w_iinc (pc2 := 13) (lv2 := [(1, .int (l1 + (1 : Int32))), (0, .int l0)]) G 1 rfl dX8_leastOf_10 k_iconst_1 (Nat.le_of_ble_eq_true rfl) rfl rfl ?_
      refine w_goto (tgt := 2) G dX8_leastOf_13 (by decide) ?_
      exact w_lv [1, 0] rfl (ih _ _ _ h K)
set_option maxHeartbeats 4000000 in
set_option maxRecDepth 100000 in
theorem r_X8_leastOf {l : Launch} {E : EV}  {l0 : Int32} {R : Int32} (h : f_X8_leastOf l0 = some R) : Ret1 l E yX8_leastOf cX8_leastOf 2 (some .int) 0 [] [.int l0] (some (.int R)) [] := by
  refine Ret.intro (lv := [(0, .int l0)]) (by decide) (Nat.le_of_ble_eq_true rfl) rfl ?_
  intro g hgl G hQ
  subst hgl
  rw [f_X8_leastOf] at h
  refine w_iconst (pc2 := 1) G dX8_leastOf_0 k_iconst_0 rfl ?_
  refine w_istore_n (pc2 := 2) (lv2 := [(1, .int (0 : Int32)), (0, .int l0)]) G dX8_leastOf_1 rfl (Nat.le_of_ble_eq_true rfl) rfl rfl ?_
  obtain ⟨x1, h0, h⟩ := bs h
  have K_x1 : WW g E 2 0 0 [] [(1, .int x1)] 16 [] := by
    clear h0
    refine w_iload_n (pc2 := 17) G 0 rfl dX8_leastOf_16 rfl rfl ?_
    cases h
    exact w_iret G hQ rfl ⟨rfl, rfl⟩ dX8_leastOf_17
  exact w_lv [1, 0] rfl (lp_X8_leastOf_2 G 20000 _ _ _ h0 (w_lv [0] rfl K_x1))
