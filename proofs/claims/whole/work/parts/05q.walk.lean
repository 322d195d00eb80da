set_option maxHeartbeats 4000000 in
set_option maxRecDepth 100000 in
theorem lp_X8_apartMany_5 {g : CX} {E : EV} {a : Nat → Nat} {o : Nat} {c_seed : Int32} {c_sightOne c_sightOther : Nat → Int32} {c_sights : Int32} {c_pad : Nat → Int32} {c_padMany : Int32} {c_act c_which c_key c_other : Nat → Int32} {c_acts : Int32} {c_order : Nat → Int32} {c_digest : Nat → Int64} {c_tall c_had : Nat → Int32} {c_badAct c_badWhy c_alikeAct c_alikeTwo c_work c_isWorked : Int32} {c_trees : Nat → Int64} {c_from c_upTo : Nat → Int32} {c_shape : Nat → Int64} {c_kept c_isKept : Nat → Int32} {c_keptAt c_isWriting : Int32}  (G : GG g E RX8 cX8_apartMany 5 (some .int) 1 0 0) : ∀ (n : Nat) (c_is : Nat → Int32) (l1 : Int32) (l2 : Int32) (l3 : Int32) (l4 : Int32) (R : Int32), L_X8_apartMany_5 n c_is l1 l2 l3 l4 = some R → WW g E 5 0 0 (wX8 E a o c_seed c_is c_sightOne c_sightOther c_sights c_pad c_padMany c_act c_which c_key c_other c_acts c_order c_digest c_tall c_had c_badAct c_badWhy c_alikeAct c_alikeTwo c_work c_isWorked c_trees c_from c_upTo c_shape c_kept c_isKept c_keptAt c_isWriting) [(3, .int R)] 43 [] → WW g E 5 0 0 (wX8 E a o c_seed c_is c_sightOne c_sightOther c_sights c_pad c_padMany c_act c_which c_key c_other c_acts c_order c_digest c_tall c_had c_badAct c_badWhy c_alikeAct c_alikeTwo c_work c_isWorked c_trees c_from c_upTo c_shape c_kept c_isKept c_keptAt c_isWriting) [(0, .ref (a o)), (1, .int l1), (2, .int l2), (3, .int l3), (4, .int l4)] 5 [] := by
  intro n
  induction n with
  | zero => intro c_is l1 l2 l3 l4 R h; exact no_some h
  | succ n ih =>
    intro c_is l1 l2 l3 l4 R h K
    rw [L_X8_apartMany_5] at h
    refine w_iload (pc2 := 7) G 4 rfl dX8_apartMany_5 rfl ?_
    refine w_bipush (pc2 := 9) G dX8_apartMany_7 k_bipush_50 rfl ?_
    refine w_icmp_ge (tgt := 43) (pc2 := 12) G dX8_apartMany_9 (by decide) rfl (fun cc => ?_) (fun cc => ?_)
    · replace h := (if_pos cc).symm.trans h
      cases h
      exact w_lv [3] rfl K
    · replace h := (if_neg cc).symm.trans h
      refine w_iload_n (pc2 := 13) G 3 rfl dX8_apartMany_12 rfl rfl ?_
      refine w_aload_n (pc2 := 14) G 0 rfl dX8_apartMany_13 rfl rfl ?_
      refine w_iload_n (pc2 := 15) G 1 rfl dX8_apartMany_14 rfl rfl ?_
      refine w_iload (pc2 := 17) G 4 rfl dX8_apartMany_15 rfl ?_
      obtain ⟨x1, H_x1, h⟩ := bs h
      refine w_cV0 (pc2 := 20) (ws2 := (wX8 E a o c_seed c_is c_sightOne c_sightOther c_sights c_pad c_padMany c_act c_which c_key c_other c_acts c_order c_digest c_tall c_had c_badAct c_badWhy c_alikeAct c_alikeTwo c_work c_isWorked c_trees c_from c_upTo c_shape c_kept c_isKept c_keptAt c_isWriting)) (As := [.int l1, .int l4]) (rest := [.int l3]) G koX8_95 (r_X8_has H_x1) (Nat.le_of_ble_eq_true rfl) 8 rfl rfl rfl rfl (Nat.le_of_ble_eq_true rfl) ⟨Nat.zero_le _, Nat.zero_le _⟩ dX8_apartMany_17 rfl rfl ?_
      refine w_aload_n (pc2 := 21) G 0 rfl dX8_apartMany_20 rfl rfl ?_
      refine w_iload_n (pc2 := 22) G 2 rfl dX8_apartMany_21 rfl rfl ?_
      refine w_iload (pc2 := 24) G 4 rfl dX8_apartMany_22 rfl ?_
      obtain ⟨x2, H_x2, h⟩ := bs h
      refine w_cV0 (pc2 := 27) (ws2 := (wX8 E a o c_seed c_is c_sightOne c_sightOther c_sights c_pad c_padMany c_act c_which c_key c_other c_acts c_order c_digest c_tall c_had c_badAct c_badWhy c_alikeAct c_alikeTwo c_work c_isWorked c_trees c_from c_upTo c_shape c_kept c_isKept c_keptAt c_isWriting)) (As := [.int l2, .int l4]) (rest := [.int x1, .int l3]) G koX8_95 (r_X8_has H_x2) (Nat.le_of_ble_eq_true rfl) 8 rfl rfl rfl rfl (Nat.le_of_ble_eq_true rfl) ⟨Nat.zero_le _, Nat.zero_le _⟩ dX8_apartMany_24 rfl rfl ?_
      refine w_icmp_ne (tgt := 34) (pc2 := 30) G dX8_apartMany_27 (by decide) rfl (fun cc => ?_) (fun cc => ?_)
      · replace h := (if_neg cc).symm.trans h
        refine w_iconst (pc2 := 35) G dX8_apartMany_34 k_iconst_1 rfl ?_
        refine w_iadd (pc2 := 36) G dX8_apartMany_35 rfl ?_
        refine w_istore_n (pc2 := 37) (lv2 := [(3, .int (l3 + (1 : Int32))), (0, .ref (a o)), (1, .int l1), (2, .int l2), (4, .int l4)]) G dX8_apartMany_36 rfl (Nat.le_of_ble_eq_true rfl) rfl rfl ?_
        refine w_iinc (pc2 := 40) (lv2 := [(4, .int (l4 + (1 : Int32))), (3, .int (l3 + (1 : Int32))), (0, .ref (a o)), (1, .int l1), (2, .int l2)]) G 4 rfl dX8_apartMany_37 k_iconst_1 (Nat.le_of_ble_eq_true rfl) rfl rfl ?_
        refine w_goto (tgt := 5) G dX8_apartMany_40 (by decide) ?_
        exact w_lv [2, 3, 4, 1, 0] rfl (ih _ _ _ _ _ _ h K)
      · replace h := (if_pos cc).symm.trans h
        refine w_iconst (pc2 := 31) G dX8_apartMany_30 k_iconst_0 rfl ?_
        refine w_goto (tgt := 35) G dX8_apartMany_31 (by decide) ?_
        refine w_iadd (pc2 := 36) G dX8_apartMany_35 rfl ?_
        refine w_istore_n (pc2 := 37) (lv2 := [(3, .int (l3 + (0 : Int32))), (0, .ref (a o)), (1, .int l1), (2, .int l2), (4, .int l4)]) G dX8_apartMany_36 rfl (Nat.le_of_ble_eq_true rfl) rfl rfl ?_
        refine w_iinc (pc2 := 40) (lv2 := [(4, .int (l4 + (1 : Int32))), (3, .int (l3 + (0 : Int32))), (0, .ref (a o)), (1, .int l1), (2, .int l2)]) G 4 rfl dX8_apartMany_37 k_iconst_1 (Nat.le_of_ble_eq_true rfl) rfl rfl ?_
        refine w_goto (tgt := 5) G dX8_apartMany_40 (by decide) ?_
        exact w_lv [2, 3, 4, 1, 0] rfl (ih _ _ _ _ _ _ h K)
set_option maxHeartbeats 4000000 in
set_option maxRecDepth 100000 in
theorem r_X8_apartMany {l : Launch} {E : EV} {a : Nat → Nat} {o : Nat} {c_seed : Int32} {c_is c_sightOne c_sightOther : Nat → Int32} {c_sights : Int32} {c_pad : Nat → Int32} {c_padMany : Int32} {c_act c_which c_key c_other : Nat → Int32} {c_acts : Int32} {c_order : Nat → Int32} {c_digest : Nat → Int64} {c_tall c_had : Nat → Int32} {c_badAct c_badWhy c_alikeAct c_alikeTwo c_work c_isWorked : Int32} {c_trees : Nat → Int64} {c_from c_upTo : Nat → Int32} {c_shape : Nat → Int64} {c_kept c_isKept : Nat → Int32} {c_keptAt c_isWriting : Int32} {l1 : Int32} {l2 : Int32} {R : Int32} (h : f_X8_apartMany c_is l1 l2 = some R) : Ret1 l E yX8_apartMany cX8_apartMany 5 (some .int) 1 (wX8 E a o c_seed c_is c_sightOne c_sightOther c_sights c_pad c_padMany c_act c_which c_key c_other c_acts c_order c_digest c_tall c_had c_badAct c_badWhy c_alikeAct c_alikeTwo c_work c_isWorked c_trees c_from c_upTo c_shape c_kept c_isKept c_keptAt c_isWriting) [.ref (a o), .int l1, .int l2] (some (.int R)) (wX8 E a o c_seed c_is c_sightOne c_sightOther c_sights c_pad c_padMany c_act c_which c_key c_other c_acts c_order c_digest c_tall c_had c_badAct c_badWhy c_alikeAct c_alikeTwo c_work c_isWorked c_trees c_from c_upTo c_shape c_kept c_isKept c_keptAt c_isWriting) := by
  refine Ret.intro (lv := [(0, .ref (a o)), (1, .int l1), (2, .int l2)]) (by decide) (Nat.le_of_ble_eq_true rfl) rfl ?_
  intro g hgl G hQ
  subst hgl
  rw [f_X8_apartMany] at h
  refine w_iconst (pc2 := 1) G dX8_apartMany_0 k_iconst_0 rfl ?_
  refine w_istore_n (pc2 := 2) (lv2 := [(3, .int (0 : Int32)), (0, .ref (a o)), (1, .int l1), (2, .int l2)]) G dX8_apartMany_1 rfl (Nat.le_of_ble_eq_true rfl) rfl rfl ?_
  refine w_iconst (pc2 := 3) G dX8_apartMany_2 k_iconst_0 rfl ?_
  refine w_istore (pc2 := 5) (lv2 := [(4, .int (0 : Int32)), (3, .int (0 : Int32)), (0, .ref (a o)), (1, .int l1), (2, .int l2)]) G dX8_apartMany_3 (Nat.le_of_ble_eq_true rfl) rfl rfl ?_
  obtain ⟨x1, h0, h⟩ := bs h
  have K_x1 : WW g E 5 0 0 (wX8 E a o c_seed c_is c_sightOne c_sightOther c_sights c_pad c_padMany c_act c_which c_key c_other c_acts c_order c_digest c_tall c_had c_badAct c_badWhy c_alikeAct c_alikeTwo c_work c_isWorked c_trees c_from c_upTo c_shape c_kept c_isKept c_keptAt c_isWriting) [(3, .int x1)] 43 [] := by
    clear h0
    refine w_iload_n (pc2 := 44) G 0 rfl dX8_apartMany_43 rfl rfl ?_
    cases h
    exact w_iret G hQ rfl ⟨rfl, rfl⟩ dX8_apartMany_44
  exact w_lv [2, 3, 4, 1, 0] rfl (lp_X8_apartMany_5 G 20000 _ _ _ _ _ _ h0 (w_lv [0] rfl K_x1))

set_option maxHeartbeats 4000000 in
set_option maxRecDepth 100000 in
theorem lp_X8_shared_5 {g : CX} {E : EV} {a : Nat → Nat} {o : Nat} {c_sightOne c_sightOther : Nat → Int32} {c_sights : Int32} {c_pad : Nat → Int32} {c_padMany : Int32} {c_act c_which c_key c_other : Nat → Int32} {c_acts : Int32} {c_order : Nat → Int32} {c_digest : Nat → Int64} {c_tall c_had : Nat → Int32} {c_badAct c_badWhy c_alikeAct c_alikeTwo c_work c_isWorked : Int32} {c_trees : Nat → Int64} {c_from c_upTo : Nat → Int32} {c_shape : Nat → Int64} {c_kept c_isKept : Nat → Int32} {c_keptAt c_isWriting : Int32}  (G : GG g E RX8 cX8_shared 5 (some .int) 5 0 0) : ∀ (n : Nat) (c_seed : Int32) (c_is : Nat → Int32) (l1 : Int32) (l2 : Int32) (l3 : Int32) (l4 : Int32) (R : Int32), L_X8_shared_5 n c_seed c_is l1 l2 l3 l4 = some R → WW g E 5 0 0 (wX8 E a o c_seed c_is c_sightOne c_sightOther c_sights c_pad c_padMany c_act c_which c_key c_other c_acts c_order c_digest c_tall c_had c_badAct c_badWhy c_alikeAct c_alikeTwo c_work c_isWorked c_trees c_from c_upTo c_shape c_kept c_isKept c_keptAt c_isWriting) [(3, .int R)] 64 [] → WW g E 5 0 0 (wX8 E a o c_seed c_is c_sightOne c_sightOther c_sights c_pad c_padMany c_act c_which c_key c_other c_acts c_order c_digest c_tall c_had c_badAct c_badWhy c_alikeAct c_alikeTwo c_work c_isWorked c_trees c_from c_upTo c_shape c_kept c_isKept c_keptAt c_isWriting) [(0, .ref (a o)), (1, .int l1), (2, .int l2), (3, .int l3), (4, .int l4)] 5 [] := by
  intro n
  induction n with
  | zero => intro c_seed c_is l1 l2 l3 l4 R h; exact no_some h
  | succ n ih =>
    intro c_seed c_is l1 l2 l3 l4 R h K
    rw [L_X8_shared_5] at h
    refine w_iload (pc2 := 7) G 4 rfl dX8_shared_5 rfl ?_
    refine w_bipush (pc2 := 9) G dX8_shared_7 k_bipush_50 rfl ?_
    refine w_icmp_ge (tgt := 64) (pc2 := 12) G dX8_shared_9 (by decide) rfl (fun cc => ?_) (fun cc => ?_)
    · replace h := (if_pos cc).symm.trans h
      cases h
      exact w_lv [3] rfl K
    · replace h := (if_neg cc).symm.trans h
      refine w_iload_n (pc2 := 13) G 3 rfl dX8_shared_12 rfl rfl ?_
      refine w_aload_n (pc2 := 14) G 0 rfl dX8_shared_13 rfl rfl ?_
      refine w_iload_n (pc2 := 15) G 1 rfl dX8_shared_14 rfl rfl ?_
      refine w_iload (pc2 := 17) G 4 rfl dX8_shared_15 rfl ?_
      obtain ⟨x1, H_x1, h⟩ := bs h
      refine w_cV0 (pc2 := 20) (ws2 := (wX8 E a o c_seed c_is c_sightOne c_sightOther c_sights c_pad c_padMany c_act c_which c_key c_other c_acts c_order c_digest c_tall c_had c_badAct c_badWhy c_alikeAct c_alikeTwo c_work c_isWorked c_trees c_from c_upTo c_shape c_kept c_isKept c_keptAt c_isWriting)) (As := [.int l1, .int l4]) (rest := [.int l3]) G koX8_95 (r_X8_has H_x1) (Nat.le_of_ble_eq_true rfl) 8 rfl rfl rfl rfl (Nat.le_of_ble_eq_true rfl) ⟨Nat.zero_le _, Nat.zero_le _⟩ dX8_shared_17 rfl rfl ?_
      refine w_if_eq (tgt := 55) (pc2 := 23) G dX8_shared_20 (by decide) rfl (fun cc => ?_) (fun cc => ?_)
      · replace h := (if_pos cc).symm.trans h
        refine w_iconst (pc2 := 56) G dX8_shared_55 k_iconst_0 rfl ?_
        refine w_iadd (pc2 := 57) G dX8_shared_56 rfl ?_
        refine w_istore_n (pc2 := 58) (lv2 := [(3, .int (l3 + (0 : Int32))), (0, .ref (a o)), (1, .int l1), (2, .int l2), (4, .int l4)]) G dX8_shared_57 rfl (Nat.le_of_ble_eq_true rfl) rfl rfl ?_
        refine w_iinc (pc2 := 61) (lv2 := [(4, .int (l4 + (1 : Int32))), (3, .int (l3 + (0 : Int32))), (0, .ref (a o)), (1, .int l1), (2, .int l2)]) G 4 rfl dX8_shared_58 k_iconst_1 (Nat.le_of_ble_eq_true rfl) rfl rfl ?_
        refine w_goto (tgt := 5) G dX8_shared_61 (by decide) ?_
        exact w_lv [2, 3, 4, 1, 0] rfl (ih _ _ _ _ _ _ _ h K)
      · replace h := (if_neg cc).symm.trans h
        refine w_aload_n (pc2 := 24) G 0 rfl dX8_shared_23 rfl rfl ?_
        refine w_iload_n (pc2 := 25) G 2 rfl dX8_shared_24 rfl rfl ?_
        refine w_iload (pc2 := 27) G 4 rfl dX8_shared_25 rfl ?_
        obtain ⟨x2, H_x2, h⟩ := bs h
        refine w_cV0 (pc2 := 30) (ws2 := (wX8 E a o c_seed c_is c_sightOne c_sightOther c_sights c_pad c_padMany c_act c_which c_key c_other c_acts c_order c_digest c_tall c_had c_badAct c_badWhy c_alikeAct c_alikeTwo c_work c_isWorked c_trees c_from c_upTo c_shape c_kept c_isKept c_keptAt c_isWriting)) (As := [.int l2, .int l4]) (rest := [.int l3]) G koX8_95 (r_X8_has H_x2) (Nat.le_of_ble_eq_true rfl) 8 rfl rfl rfl rfl (Nat.le_of_ble_eq_true rfl) ⟨Nat.zero_le _, Nat.zero_le _⟩ dX8_shared_27 rfl rfl ?_
        refine w_if_eq (tgt := 55) (pc2 := 33) G dX8_shared_30 (by decide) rfl (fun cc => ?_) (fun cc => ?_)
        · replace h := (if_pos cc).symm.trans h
          refine w_iconst (pc2 := 56) G dX8_shared_55 k_iconst_0 rfl ?_
          refine w_iadd (pc2 := 57) G dX8_shared_56 rfl ?_
          refine w_istore_n (pc2 := 58) (lv2 := [(3, .int (l3 + (0 : Int32))), (0, .ref (a o)), (1, .int l1), (2, .int l2), (4, .int l4)]) G dX8_shared_57 rfl (Nat.le_of_ble_eq_true rfl) rfl rfl ?_
          refine w_iinc (pc2 := 61) (lv2 := [(4, .int (l4 + (1 : Int32))), (3, .int (l3 + (0 : Int32))), (0, .ref (a o)), (1, .int l1), (2, .int l2)]) G 4 rfl dX8_shared_58 k_iconst_1 (Nat.le_of_ble_eq_true rfl) rfl rfl ?_
          refine w_goto (tgt := 5) G dX8_shared_61 (by decide) ?_
          exact w_lv [2, 3, 4, 1, 0] rfl (ih _ _ _ _ _ _ _ h K)
        · replace h := (if_neg cc).symm.trans h
          refine w_aload_n (pc2 := 34) G 0 rfl dX8_shared_33 rfl rfl ?_
          refine w_iload_n (pc2 := 35) G 1 rfl dX8_shared_34 rfl rfl ?_
          refine w_iload (pc2 := 37) G 4 rfl dX8_shared_35 rfl ?_
          obtain ⟨x3, H_x3, h⟩ := bs h
          refine w_cV0 (pc2 := 40) (ws2 := (wX8 E a o c_seed c_is c_sightOne c_sightOther c_sights c_pad c_padMany c_act c_which c_key c_other c_acts c_order c_digest c_tall c_had c_badAct c_badWhy c_alikeAct c_alikeTwo c_work c_isWorked c_trees c_from c_upTo c_shape c_kept c_isKept c_keptAt c_isWriting)) (As := [.int l1, .int l4]) (rest := [.int l3]) G koX8_193 (r_X8_treeOf H_x3) (Nat.le_of_ble_eq_true rfl) 8 rfl rfl rfl rfl (Nat.le_of_ble_eq_true rfl) ⟨Nat.zero_le _, Nat.zero_le _⟩ dX8_shared_37 rfl rfl ?_
          refine w_aload_n (pc2 := 41) G 0 rfl dX8_shared_40 rfl rfl ?_
          refine w_iload_n (pc2 := 42) G 2 rfl dX8_shared_41 rfl rfl ?_
          refine w_iload (pc2 := 44) G 4 rfl dX8_shared_42 rfl ?_
          obtain ⟨x4, H_x4, h⟩ := bs h
          refine w_cV0 (pc2 := 47) (ws2 := (wX8 E a o c_seed c_is c_sightOne c_sightOther c_sights c_pad c_padMany c_act c_which c_key c_other c_acts c_order c_digest c_tall c_had c_badAct c_badWhy c_alikeAct c_alikeTwo c_work c_isWorked c_trees c_from c_upTo c_shape c_kept c_isKept c_keptAt c_isWriting)) (As := [.int l2, .int l4]) (rest := [.long x3, .int l3]) G koX8_193 (r_X8_treeOf H_x4) (Nat.le_of_ble_eq_true rfl) 8 rfl rfl rfl rfl (Nat.le_of_ble_eq_true rfl) ⟨Nat.zero_le _, Nat.zero_le _⟩ dX8_shared_44 rfl rfl ?_
          refine w_lcmp (pc2 := 48) G dX8_shared_47 rfl ?_
          refine w_if_ne (tgt := 55) (pc2 := 51) G dX8_shared_48 (by decide) rfl (fun cc => ?_) (fun cc => ?_)
          · replace h := (if_neg cc).symm.trans h
            refine w_iconst (pc2 := 56) G dX8_shared_55 k_iconst_0 rfl ?_
            refine w_iadd (pc2 := 57) G dX8_shared_56 rfl ?_
            refine w_istore_n (pc2 := 58) (lv2 := [(3, .int (l3 + (0 : Int32))), (0, .ref (a o)), (1, .int l1), (2, .int l2), (4, .int l4)]) G dX8_shared_57 rfl (Nat.le_of_ble_eq_true rfl) rfl rfl ?_
            refine w_iinc (pc2 := 61) (lv2 := [(4, .int (l4 + (1 : Int32))), (3, .int (l3 + (0 : Int32))), (0, .ref (a o)), (1, .int l1), (2, .int l2)]) G 4 rfl dX8_shared_58 k_iconst_1 (Nat.le_of_ble_eq_true rfl) rfl rfl ?_
            refine w_goto (tgt := 5) G dX8_shared_61 (by decide) ?_
            exact w_lv [2, 3, 4, 1, 0] rfl (ih _ _ _ _ _ _ _ h K)
          · replace h := (if_pos cc).symm.trans h
            refine w_iconst (pc2 := 52) G dX8_shared_51 k_iconst_1 rfl ?_
            refine w_goto (tgt := 56) G dX8_shared_52 (by decide) ?_
            refine w_iadd (pc2 := 57) G dX8_shared_56 rfl ?_
            refine w_istore_n (pc2 := 58) (lv2 := [(3, .int (l3 + (1 : Int32))), (0, .ref (a o)), (1, .int l1), (2, .int l2), (4, .int l4)]) G dX8_shared_57 rfl (Nat.le_of_ble_eq_true rfl) rfl rfl ?_
            refine w_iinc (pc2 := 61) (lv2 := [(4, .int (l4 + (1 : Int32))), (3, .int (l3 + (1 : Int32))), (0, .ref (a o)), (1, .int l1), (2, .int l2)]) G 4 rfl dX8_shared_58 k_iconst_1 (Nat.le_of_ble_eq_true rfl) rfl rfl ?_
            refine w_goto (tgt := 5) G dX8_shared_61 (by decide) ?_
            exact w_lv [2, 3, 4, 1, 0] rfl (ih _ _ _ _ _ _ _ h K)
set_option maxHeartbeats 4000000 in
set_option maxRecDepth 100000 in
theorem r_X8_shared {l : Launch} {E : EV} {a : Nat → Nat} {o : Nat} {c_seed : Int32} {c_is c_sightOne c_sightOther : Nat → Int32} {c_sights : Int32} {c_pad : Nat → Int32} {c_padMany : Int32} {c_act c_which c_key c_other : Nat → Int32} {c_acts : Int32} {c_order : Nat → Int32} {c_digest : Nat → Int64} {c_tall c_had : Nat → Int32} {c_badAct c_badWhy c_alikeAct c_alikeTwo c_work c_isWorked : Int32} {c_trees : Nat → Int64} {c_from c_upTo : Nat → Int32} {c_shape : Nat → Int64} {c_kept c_isKept : Nat → Int32} {c_keptAt c_isWriting : Int32} {l1 : Int32} {l2 : Int32} {R : Int32} (h : f_X8_shared c_seed c_is l1 l2 = some R) : Ret1 l E yX8_shared cX8_shared 5 (some .int) 5 (wX8 E a o c_seed c_is c_sightOne c_sightOther c_sights c_pad c_padMany c_act c_which c_key c_other c_acts c_order c_digest c_tall c_had c_badAct c_badWhy c_alikeAct c_alikeTwo c_work c_isWorked c_trees c_from c_upTo c_shape c_kept c_isKept c_keptAt c_isWriting) [.ref (a o), .int l1, .int l2] (some (.int R)) (wX8 E a o c_seed c_is c_sightOne c_sightOther c_sights c_pad c_padMany c_act c_which c_key c_other c_acts c_order c_digest c_tall c_had c_badAct c_badWhy c_alikeAct c_alikeTwo c_work c_isWorked c_trees c_from c_upTo c_shape c_kept c_isKept c_keptAt c_isWriting) := by
  refine Ret.intro (lv := [(0, .ref (a o)), (1, .int l1), (2, .int l2)]) (by decide) (Nat.le_of_ble_eq_true rfl) rfl ?_
  intro g hgl G hQ
  subst hgl
  rw [f_X8_shared] at h
  refine w_iconst (pc2 := 1) G dX8_shared_0 k_iconst_0 rfl ?_
  refine w_istore_n (pc2 := 2) (lv2 := [(3, .int (0 : Int32)), (0, .ref (a o)), (1, .int l1), (2, .int l2)]) G dX8_shared_1 rfl (Nat.le_of_ble_eq_true rfl) rfl rfl ?_
  refine w_iconst (pc2 := 3) G dX8_shared_2 k_iconst_0 rfl ?_
  refine w_istore (pc2 := 5) (lv2 := [(4, .int (0 : Int32)), (3, .int (0 : Int32)), (0, .ref (a o)), (1, .int l1), (2, .int l2)]) G dX8_shared_3 (Nat.le_of_ble_eq_true rfl) rfl rfl ?_
  obtain ⟨x1, h0, h⟩ := bs h
  have K_x1 : WW g E 5 0 0 (wX8 E a o c_seed c_is c_sightOne c_sightOther c_sights c_pad c_padMany c_act c_which c_key c_other c_acts c_order c_digest c_tall c_had c_badAct c_badWhy c_alikeAct c_alikeTwo c_work c_isWorked c_trees c_from c_upTo c_shape c_kept c_isKept c_keptAt c_isWriting) [(3, .int x1)] 64 [] := by
    clear h0
    refine w_iload_n (pc2 := 65) G 0 rfl dX8_shared_64 rfl rfl ?_
    cases h
    exact w_iret G hQ rfl ⟨rfl, rfl⟩ dX8_shared_65
  exact w_lv [2, 3, 4, 1, 0] rfl (lp_X8_shared_5 G 20000 _ _ _ _ _ _ _ h0 (w_lv [0] rfl K_x1))

set_option maxHeartbeats 4000000 in
set_option maxRecDepth 100000 in
theorem r_X8_apart {l : Launch} {E : EV} {a : Nat → Nat} {o : Nat} {c_seed : Int32} {c_is c_sightOne c_sightOther : Nat → Int32} {c_sights : Int32} {c_pad : Nat → Int32} {c_padMany : Int32} {c_act c_which c_key c_other : Nat → Int32} {c_acts : Int32} {c_order : Nat → Int32} {c_digest : Nat → Int64} {c_tall c_had : Nat → Int32} {c_badAct c_badWhy c_alikeAct c_alikeTwo c_work c_isWorked : Int32} {c_trees : Nat → Int64} {c_from c_upTo : Nat → Int32} {c_shape : Nat → Int64} {c_kept c_isKept : Nat → Int32} {c_keptAt c_isWriting : Int32} {l1 : Int32} {l2 : Int32} {l3 : Int32} {R : Int32 × (Nat → Int32) × (Nat → Int64) × (Nat → Int32) × (Nat → Int32) × (Nat → Int32)} (h : f_X8_apart c_seed c_is c_order c_digest c_tall c_from c_upTo l1 l2 l3 = some R) : Ret1 l E yX8_apart cX8_apart 4 (some .int) 8 (wX8 E a o c_seed c_is c_sightOne c_sightOther c_sights c_pad c_padMany c_act c_which c_key c_other c_acts c_order c_digest c_tall c_had c_badAct c_badWhy c_alikeAct c_alikeTwo c_work c_isWorked c_trees c_from c_upTo c_shape c_kept c_isKept c_keptAt c_isWriting) [.ref (a o), .int l1, .int l2, .int l3] (some (.int R.1)) (wX8 E a o c_seed c_is c_sightOne c_sightOther c_sights c_pad c_padMany c_act c_which c_key c_other c_acts R.2.1 R.2.2.1 R.2.2.2.1 c_had c_badAct c_badWhy c_alikeAct c_alikeTwo c_work c_isWorked c_trees R.2.2.2.2.1 R.2.2.2.2.2 c_shape c_kept c_isKept c_keptAt c_isWriting) := by
  refine Ret.intro (lv := [(0, .ref (a o)), (1, .int l1), (2, .int l2), (3, .int l3)]) (by decide) (Nat.le_of_ble_eq_true rfl) rfl ?_
  intro g hgl G hQ
  subst hgl
  rw [f_X8_apart] at h
  refine w_iload_n (pc2 := 1) G 1 rfl dX8_apart_0 rfl rfl ?_
  obtain ⟨x1, H_x1, h⟩ := bs h
  refine w_cS0 (pc2 := 4) (As := [.int l1]) (rest := []) G koX8_88 (r_X8_isSet H_x1) (Nat.le_of_ble_eq_true rfl) rfl rfl (Nat.le_of_ble_eq_true rfl) ⟨Nat.zero_le _, Nat.zero_le _⟩ dX8_apart_1 rfl rfl ?_
  refine w_if_eq (tgt := 14) (pc2 := 7) G dX8_apart_4 (by decide) rfl (fun cc => ?_) (fun cc => ?_)
  · replace h := (if_pos cc).symm.trans h
    refine w_iconst (pc2 := 15) G dX8_apart_14 k_iconst_m1 rfl ?_
    cases h
    exact w_iret G hQ rfl ⟨rfl, rfl⟩ dX8_apart_15
  · replace h := (if_neg cc).symm.trans h
    refine w_iload_n (pc2 := 8) G 2 rfl dX8_apart_7 rfl rfl ?_
    obtain ⟨x2, H_x2, h⟩ := bs h
    refine w_cS0 (pc2 := 11) (As := [.int l2]) (rest := []) G koX8_88 (r_X8_isSet H_x2) (Nat.le_of_ble_eq_true rfl) rfl rfl (Nat.le_of_ble_eq_true rfl) ⟨Nat.zero_le _, Nat.zero_le _⟩ dX8_apart_8 rfl rfl ?_
    refine w_if_ne (tgt := 16) (pc2 := 14) G dX8_apart_11 (by decide) rfl (fun cc => ?_) (fun cc => ?_)
    · replace h := (if_neg cc).symm.trans h
      refine w_iload_n (pc2 := 17) G 3 rfl dX8_apart_16 rfl rfl ?_
      refine w_i2l (pc2 := 18) G dX8_apart_17 rfl ?_
      refine w_lconst (pc2 := 19) G dX8_apart_18 k_lconst_0 rfl ?_
      refine w_ldc2 (pc2 := 22) G wd_310 dX8_apart_19 rfl ?_
      obtain ⟨x3, H_x3, h⟩ := bs h
      refine w_cS0 (pc2 := 25) (As := [.long l3.toInt64, .long (0 : Int64), .long (2 : Int64)]) (rest := []) G koX8_68 (r_X8_in H_x3) (Nat.le_of_ble_eq_true rfl) rfl rfl (Nat.le_of_ble_eq_true rfl) ⟨Nat.zero_le _, Nat.zero_le _⟩ dX8_apart_22 rfl rfl ?_
      refine w_if_ne (tgt := 31) (pc2 := 28) G dX8_apart_25 (by decide) rfl (fun cc => ?_) (fun cc => ?_)
      · replace h := (if_neg cc).symm.trans h
        refine w_iload_n (pc2 := 32) G 3 rfl dX8_apart_31 rfl rfl ?_
        refine w_if_ne (tgt := 44) (pc2 := 35) G dX8_apart_32 (by decide) rfl (fun cc => ?_) (fun cc => ?_)
        · replace h := (if_neg cc).symm.trans h
          refine w_iload_n (pc2 := 45) G 3 rfl dX8_apart_44 rfl rfl ?_
          refine w_iconst (pc2 := 46) G dX8_apart_45 k_iconst_1 rfl ?_
          refine w_icmp_ne (tgt := 58) (pc2 := 49) G dX8_apart_46 (by decide) rfl (fun cc => ?_) (fun cc => ?_)
          · replace h := (if_neg cc).symm.trans h
            refine w_aload_n (pc2 := 59) G 0 rfl dX8_apart_58 rfl rfl ?_
            refine w_iload_n (pc2 := 60) G 1 rfl dX8_apart_59 rfl rfl ?_
            refine w_iload_n (pc2 := 61) G 2 rfl dX8_apart_60 rfl rfl ?_
            obtain ⟨x4, H_x4, h⟩ := bs h
            refine w_cV0 (pc2 := 64) (ws2 := (wX8 E a o c_seed c_is c_sightOne c_sightOther c_sights c_pad c_padMany c_act c_which c_key c_other c_acts c_order c_digest c_tall c_had c_badAct c_badWhy c_alikeAct c_alikeTwo c_work c_isWorked c_trees c_from c_upTo c_shape c_kept c_isKept c_keptAt c_isWriting)) (As := [.int l1, .int l2]) (rest := []) G koX8_290 (r_X8_shared H_x4) (Nat.le_of_ble_eq_true rfl) 8 rfl rfl rfl rfl (Nat.le_of_ble_eq_true rfl) ⟨Nat.zero_le _, Nat.zero_le _⟩ dX8_apart_61 rfl rfl ?_
            cases h
            exact w_iret G hQ rfl ⟨rfl, rfl⟩ dX8_apart_64
          · replace h := (if_pos cc).symm.trans h
            refine w_aload_n (pc2 := 50) G 0 rfl dX8_apart_49 rfl rfl ?_
            refine w_iload_n (pc2 := 51) G 1 rfl dX8_apart_50 rfl rfl ?_
            refine w_iload_n (pc2 := 52) G 2 rfl dX8_apart_51 rfl rfl ?_
            obtain ⟨x5, H_x5, h⟩ := bs h
            refine w_cV0 (pc2 := 55) (ws2 := (wX8 E a o c_seed c_is c_sightOne c_sightOther c_sights c_pad c_padMany c_act c_which c_key c_other c_acts x5.2.1 x5.2.2.1 x5.2.2.2.1 c_had c_badAct c_badWhy c_alikeAct c_alikeTwo c_work c_isWorked c_trees x5.2.2.2.2.1 x5.2.2.2.2.2 c_shape c_kept c_isKept c_keptAt c_isWriting)) (As := [.int l1, .int l2]) (rest := []) G koX8_287 (r_X8_looks H_x5) (Nat.le_of_ble_eq_true rfl) 8 rfl rfl rfl rfl (Nat.le_of_ble_eq_true rfl) ⟨Nat.zero_le _, Nat.zero_le _⟩ dX8_apart_52 rfl rfl ?_
            refine w_goto (tgt := 64) G dX8_apart_55 (by decide) ?_
            cases h
            exact w_iret G hQ rfl ⟨rfl, rfl⟩ dX8_apart_64
        · replace h := (if_pos cc).symm.trans h
          refine w_aload_n (pc2 := 36) G 0 rfl dX8_apart_35 rfl rfl ?_
          refine w_iload_n (pc2 := 37) G 1 rfl dX8_apart_36 rfl rfl ?_
          refine w_iload_n (pc2 := 38) G 2 rfl dX8_apart_37 rfl rfl ?_
          obtain ⟨x6, H_x6, h⟩ := bs h
          refine w_cV0 (pc2 := 41) (ws2 := (wX8 E a o c_seed c_is c_sightOne c_sightOther c_sights c_pad c_padMany c_act c_which c_key c_other c_acts c_order c_digest c_tall c_had c_badAct c_badWhy c_alikeAct c_alikeTwo c_work c_isWorked c_trees c_from c_upTo c_shape c_kept c_isKept c_keptAt c_isWriting)) (As := [.int l1, .int l2]) (rest := []) G koX8_284 (r_X8_apartMany H_x6) (Nat.le_of_ble_eq_true rfl) 8 rfl rfl rfl rfl (Nat.le_of_ble_eq_true rfl) ⟨Nat.zero_le _, Nat.zero_le _⟩ dX8_apart_38 rfl rfl ?_
          refine w_goto (tgt := 64) G dX8_apart_41 (by decide) ?_
          cases h
          exact w_iret G hQ rfl ⟨rfl, rfl⟩ dX8_apart_64
      · replace h := (if_pos cc).symm.trans h
        refine w_bipush (pc2 := 30) G dX8_apart_28 k_bipush_m2 rfl ?_
        cases h
        exact w_iret G hQ rfl ⟨rfl, rfl⟩ dX8_apart_30
    · replace h := (if_pos cc).symm.trans h
      refine w_iconst (pc2 := 15) G dX8_apart_14 k_iconst_m1 rfl ?_
      cases h
      exact w_iret G hQ rfl ⟨rfl, rfl⟩ dX8_apart_15

set_option maxHeartbeats 4000000 in
set_option maxRecDepth 100000 in
theorem lp_X8_differs_22 {g : CX} {E : EV} {a : Nat → Nat} {o : Nat} {c_seed : Int32} {c_sightOne c_sightOther : Nat → Int32} {c_sights : Int32} {c_pad : Nat → Int32} {c_padMany : Int32} {c_act c_which c_key c_other : Nat → Int32} {c_acts : Int32} {c_order : Nat → Int32} {c_digest : Nat → Int64} {c_tall c_had : Nat → Int32} {c_badAct c_badWhy c_alikeAct c_alikeTwo c_work c_isWorked : Int32} {c_trees : Nat → Int64} {c_from c_upTo : Nat → Int32} {c_shape : Nat → Int64} {c_kept c_isKept : Nat → Int32} {c_keptAt c_isWriting : Int32}  (G : GG g E RX8 cX8_differs 6 (some .int) 2 0 0) {R : Int32} {c_is : Nat → Int32} (hQ : RQ g E 0 0 (fun v2 w2 => v2 = (some (.int R)) ∧ w2 = (wX8 E a o c_seed c_is c_sightOne c_sightOther c_sights c_pad c_padMany c_act c_which c_key c_other c_acts c_order c_digest c_tall c_had c_badAct c_badWhy c_alikeAct c_alikeTwo c_work c_isWorked c_trees c_from c_upTo c_shape c_kept c_isKept c_keptAt c_isWriting))) : ∀ (n : Nat) (l1 : Int32) (l2 : Int32) (l3 : Int32) (l4 : Int32) (l5 : Int32), L_X8_differs_22 n c_is l1 l2 l3 l4 l5 = some R → WW g E 6 0 0 (wX8 E a o c_seed c_is c_sightOne c_sightOther c_sights c_pad c_padMany c_act c_which c_key c_other c_acts c_order c_digest c_tall c_had c_badAct c_badWhy c_alikeAct c_alikeTwo c_work c_isWorked c_trees c_from c_upTo c_shape c_kept c_isKept c_keptAt c_isWriting) [(0, .ref (a o)), (1, .int l1), (2, .int l2), (3, .int l3), (4, .int l4), (5, .int l5)] 22 [] := by
  intro n
  induction n with
  | zero => intro l1 l2 l3 l4 l5 h; exact no_some h
  | succ n ih =>
    intro l1 l2 l3 l4 l5 h
    rw [L_X8_differs_22] at h
    refine w_iload (pc2 := 24) G 5 rfl dX8_differs_22 rfl ?_
    refine w_bipush (pc2 := 26) G dX8_differs_24 k_bipush_50 rfl ?_
    refine w_icmp_ge (tgt := 64) (pc2 := 29) G dX8_differs_26 (by decide) rfl (fun cc => ?_) (fun cc => ?_)
    · replace h := (if_pos cc).symm.trans h
      refine w_bipush (pc2 := 66) G dX8_differs_64 k_bipush_m6 rfl ?_
      cases h
      exact w_iret G hQ rfl ⟨rfl, rfl⟩ dX8_differs_66
    · replace h := (if_neg cc).symm.trans h
      refine w_aload_n (pc2 := 30) G 0 rfl dX8_differs_29 rfl rfl ?_
      refine w_iload_n (pc2 := 31) G 1 rfl dX8_differs_30 rfl rfl ?_
      refine w_iload (pc2 := 33) G 5 rfl dX8_differs_31 rfl ?_
      obtain ⟨x1, H_x1, h⟩ := bs h
      refine w_cV0 (pc2 := 36) (ws2 := (wX8 E a o c_seed c_is c_sightOne c_sightOther c_sights c_pad c_padMany c_act c_which c_key c_other c_acts c_order c_digest c_tall c_had c_badAct c_badWhy c_alikeAct c_alikeTwo c_work c_isWorked c_trees c_from c_upTo c_shape c_kept c_isKept c_keptAt c_isWriting)) (As := [.int l1, .int l5]) (rest := []) G koX8_95 (r_X8_has H_x1) (Nat.le_of_ble_eq_true rfl) 8 rfl rfl rfl rfl (Nat.le_of_ble_eq_true rfl) ⟨Nat.zero_le _, Nat.zero_le _⟩ dX8_differs_33 rfl rfl ?_
      refine w_aload_n (pc2 := 37) G 0 rfl dX8_differs_36 rfl rfl ?_
      refine w_iload_n (pc2 := 38) G 2 rfl dX8_differs_37 rfl rfl ?_
      refine w_iload (pc2 := 40) G 5 rfl dX8_differs_38 rfl ?_
      obtain ⟨x2, H_x2, h⟩ := bs h
      refine w_cV0 (pc2 := 43) (ws2 := (wX8 E a o c_seed c_is c_sightOne c_sightOther c_sights c_pad c_padMany c_act c_which c_key c_other c_acts c_order c_digest c_tall c_had c_badAct c_badWhy c_alikeAct c_alikeTwo c_work c_isWorked c_trees c_from c_upTo c_shape c_kept c_isKept c_keptAt c_isWriting)) (As := [.int l2, .int l5]) (rest := [.int x1]) G koX8_95 (r_X8_has H_x2) (Nat.le_of_ble_eq_true rfl) 8 rfl rfl rfl rfl (Nat.le_of_ble_eq_true rfl) ⟨Nat.zero_le _, Nat.zero_le _⟩ dX8_differs_40 rfl rfl ?_
      refine w_icmp_eq (tgt := 58) (pc2 := 46) G dX8_differs_43 (by decide) rfl (fun cc => ?_) (fun cc => ?_)
      · replace h := (if_pos cc).symm.trans h
        refine w_iinc (pc2 := 61) (lv2 := [(5, .int (l5 + (1 : Int32))), (0, .ref (a o)), (1, .int l1), (2, .int l2), (3, .int l3), (4, .int l4)]) G 5 rfl dX8_differs_58 k_iconst_1 (Nat.le_of_ble_eq_true rfl) rfl rfl ?_
        refine w_goto (tgt := 22) G dX8_differs_61 (by decide) ?_
        exact w_lv [1, 2, 3, 4, 5, 0] rfl (ih _ _ _ _ _ h )
      · replace h := (if_neg cc).symm.trans h
        refine w_iload (pc2 := 48) G 4 rfl dX8_differs_46 rfl ?_
        refine w_iload_n (pc2 := 49) G 3 rfl dX8_differs_48 rfl rfl ?_
        refine w_icmp_ne (tgt := 55) (pc2 := 52) G dX8_differs_49 (by decide) rfl (fun cc => ?_) (fun cc => ?_)
        · replace h := (if_neg cc).symm.trans h
          refine w_iinc (pc2 := 58) (lv2 := [(4, .int (l4 + (1 : Int32))), (0, .ref (a o)), (1, .int l1), (2, .int l2), (3, .int l3), (5, .int l5)]) G 4 rfl dX8_differs_55 k_iconst_1 (Nat.le_of_ble_eq_true rfl) rfl rfl ?_
          refine w_iinc (pc2 := 61) (lv2 := [(5, .int (l5 + (1 : Int32))), (4, .int (l4 + (1 : Int32))), (0, .ref (a o)), (1, .int l1), (2, .int l2), (3, .int l3)]) G 5 rfl dX8_differs_58 k_iconst_1 (Nat.le_of_ble_eq_true rfl) rfl rfl ?_
          refine w_goto (tgt := 22) G dX8_differs_61 (by decide) ?_
          exact w_lv [2, 3, 4, 5, 1, 0] rfl (ih _ _ _ _ _ h )
        · replace h := (if_pos cc).symm.trans h
          refine w_iload (pc2 := 54) G 5 rfl dX8_differs_52 rfl ?_
          cases h
          exact w_iret G hQ rfl ⟨rfl, rfl⟩ dX8_differs_54
set_option maxHeartbeats 4000000 in
set_option maxRecDepth 100000 in
theorem r_X8_differs {l : Launch} {E : EV} {a : Nat → Nat} {o : Nat} {c_seed : Int32} {c_is c_sightOne c_sightOther : Nat → Int32} {c_sights : Int32} {c_pad : Nat → Int32} {c_padMany : Int32} {c_act c_which c_key c_other : Nat → Int32} {c_acts : Int32} {c_order : Nat → Int32} {c_digest : Nat → Int64} {c_tall c_had : Nat → Int32} {c_badAct c_badWhy c_alikeAct c_alikeTwo c_work c_isWorked : Int32} {c_trees : Nat → Int64} {c_from c_upTo : Nat → Int32} {c_shape : Nat → Int64} {c_kept c_isKept : Nat → Int32} {c_keptAt c_isWriting : Int32} {l1 : Int32} {l2 : Int32} {l3 : Int32} {R : Int32} (h : f_X8_differs c_is l1 l2 l3 = some R) : Ret1 l E yX8_differs cX8_differs 6 (some .int) 2 (wX8 E a o c_seed c_is c_sightOne c_sightOther c_sights c_pad c_padMany c_act c_which c_key c_other c_acts c_order c_digest c_tall c_had c_badAct c_badWhy c_alikeAct c_alikeTwo c_work c_isWorked c_trees c_from c_upTo c_shape c_kept c_isKept c_keptAt c_isWriting) [.ref (a o), .int l1, .int l2, .int l3] (some (.int R)) (wX8 E a o c_seed c_is c_sightOne c_sightOther c_sights c_pad c_padMany c_act c_which c_key c_other c_acts c_order c_digest c_tall c_had c_badAct c_badWhy c_alikeAct c_alikeTwo c_work c_isWorked c_trees c_from c_upTo c_shape c_kept c_isKept c_keptAt c_isWriting) := by
  refine Ret.intro (lv := [(0, .ref (a o)), (1, .int l1), (2, .int l2), (3, .int l3)]) (by decide) (Nat.le_of_ble_eq_true rfl) rfl ?_
  intro g hgl G hQ
  subst hgl
  rw [f_X8_differs] at h
  refine w_iload_n (pc2 := 1) G 1 rfl dX8_differs_0 rfl rfl ?_
  obtain ⟨x1, H_x1, h⟩ := bs h
  refine w_cS0 (pc2 := 4) (As := [.int l1]) (rest := []) G koX8_88 (r_X8_isSet H_x1) (Nat.le_of_ble_eq_true rfl) rfl rfl (Nat.le_of_ble_eq_true rfl) ⟨Nat.zero_le _, Nat.zero_le _⟩ dX8_differs_1 rfl rfl ?_
  refine w_if_eq (tgt := 14) (pc2 := 7) G dX8_differs_4 (by decide) rfl (fun cc => ?_) (fun cc => ?_)
  · replace h := (if_pos cc).symm.trans h
    refine w_iconst (pc2 := 15) G dX8_differs_14 k_iconst_m1 rfl ?_
    cases h
    exact w_iret G hQ rfl ⟨rfl, rfl⟩ dX8_differs_15
  · replace h := (if_neg cc).symm.trans h
    refine w_iload_n (pc2 := 8) G 2 rfl dX8_differs_7 rfl rfl ?_
    obtain ⟨x2, H_x2, h⟩ := bs h
    refine w_cS0 (pc2 := 11) (As := [.int l2]) (rest := []) G koX8_88 (r_X8_isSet H_x2) (Nat.le_of_ble_eq_true rfl) rfl rfl (Nat.le_of_ble_eq_true rfl) ⟨Nat.zero_le _, Nat.zero_le _⟩ dX8_differs_8 rfl rfl ?_
    refine w_if_ne (tgt := 16) (pc2 := 14) G dX8_differs_11 (by decide) rfl (fun cc => ?_) (fun cc => ?_)
    · replace h := (if_neg cc).symm.trans h
      refine w_iconst (pc2 := 17) G dX8_differs_16 k_iconst_0 rfl ?_
      refine w_istore (pc2 := 19) (lv2 := [(4, .int (0 : Int32)), (0, .ref (a o)), (1, .int l1), (2, .int l2), (3, .int l3)]) G dX8_differs_17 (Nat.le_of_ble_eq_true rfl) rfl rfl ?_
      refine w_iconst (pc2 := 20) G dX8_differs_19 k_iconst_0 rfl ?_
      refine w_istore (pc2 := 22) (lv2 := [(5, .int (0 : Int32)), (4, .int (0 : Int32)), (0, .ref (a o)), (1, .int l1), (2, .int l2), (3, .int l3)]) G dX8_differs_20 (Nat.le_of_ble_eq_true rfl) rfl rfl ?_
      exact w_lv [2, 3, 4, 5, 1, 0] rfl (lp_X8_differs_22 G hQ 20000 _ _ _ _ _ h)
    · replace h := (if_pos cc).symm.trans h
      refine w_iconst (pc2 := 15) G dX8_differs_14 k_iconst_m1 rfl ?_
      cases h
      exact w_iret G hQ rfl ⟨rfl, rfl⟩ dX8_differs_15

set_option maxHeartbeats 4000000 in
set_option maxRecDepth 100000 in
theorem r_X8_above {l : Launch} {E : EV} {a : Nat → Nat} {o : Nat} {c_seed : Int32} {c_is c_sightOne c_sightOther : Nat → Int32} {c_sights : Int32} {c_pad : Nat → Int32} {c_padMany : Int32} {c_act c_which c_key c_other : Nat → Int32} {c_acts : Int32} {c_order : Nat → Int32} {c_digest : Nat → Int64} {c_tall c_had : Nat → Int32} {c_badAct c_badWhy c_alikeAct c_alikeTwo c_work c_isWorked : Int32} {c_trees : Nat → Int64} {c_from c_upTo : Nat → Int32} {c_shape : Nat → Int64} {c_kept c_isKept : Nat → Int32} {c_keptAt c_isWriting : Int32} {l1 : Int32} {l2 : Int32} {R : Int32 × (Nat → Int32) × (Nat → Int32) × Int32} (h : f_X8_above c_sightOne c_sightOther c_sights l1 l2 = some R) : Ret1 l E yX8_above cX8_above 3 (some .int) 2 (wX8 E a o c_seed c_is c_sightOne c_sightOther c_sights c_pad c_padMany c_act c_which c_key c_other c_acts c_order c_digest c_tall c_had c_badAct c_badWhy c_alikeAct c_alikeTwo c_work c_isWorked c_trees c_from c_upTo c_shape c_kept c_isKept c_keptAt c_isWriting) [.ref (a o), .int l1, .int l2] (some (.int R.1)) (wX8 E a o c_seed c_is R.2.1 R.2.2.1 R.2.2.2 c_pad c_padMany c_act c_which c_key c_other c_acts c_order c_digest c_tall c_had c_badAct c_badWhy c_alikeAct c_alikeTwo c_work c_isWorked c_trees c_from c_upTo c_shape c_kept c_isKept c_keptAt c_isWriting) := by
  refine Ret.intro (lv := [(0, .ref (a o)), (1, .int l1), (2, .int l2)]) (by decide) (Nat.le_of_ble_eq_true rfl) rfl ?_
  intro g hgl G hQ
  subst hgl
  rw [f_X8_above] at h
  refine w_iload_n (pc2 := 1) G 1 rfl dX8_above_0 rfl rfl ?_
  obtain ⟨x1, H_x1, h⟩ := bs h
  refine w_cS0 (pc2 := 4) (As := [.int l1]) (rest := []) G koX8_92 (r_X8_isKey H_x1) (Nat.le_of_ble_eq_true rfl) rfl rfl (Nat.le_of_ble_eq_true rfl) ⟨Nat.zero_le _, Nat.zero_le _⟩ dX8_above_1 rfl rfl ?_
  refine w_if_eq (tgt := 14) (pc2 := 7) G dX8_above_4 (by decide) rfl (fun cc => ?_) (fun cc => ?_)
  · replace h := (if_pos cc).symm.trans h
    refine w_iconst (pc2 := 15) G dX8_above_14 k_iconst_m1 rfl ?_
    cases h
    exact w_iret G hQ rfl ⟨rfl, rfl⟩ dX8_above_15
  · replace h := (if_neg cc).symm.trans h
    refine w_iload_n (pc2 := 8) G 2 rfl dX8_above_7 rfl rfl ?_
    obtain ⟨x2, H_x2, h⟩ := bs h
    refine w_cS0 (pc2 := 11) (As := [.int l2]) (rest := []) G koX8_92 (r_X8_isKey H_x2) (Nat.le_of_ble_eq_true rfl) rfl rfl (Nat.le_of_ble_eq_true rfl) ⟨Nat.zero_le _, Nat.zero_le _⟩ dX8_above_8 rfl rfl ?_
    refine w_if_ne (tgt := 16) (pc2 := 14) G dX8_above_11 (by decide) rfl (fun cc => ?_) (fun cc => ?_)
    · replace h := (if_neg cc).symm.trans h
      refine w_iload_n (pc2 := 17) G 1 rfl dX8_above_16 rfl rfl ?_
      refine w_iload_n (pc2 := 18) G 2 rfl dX8_above_17 rfl rfl ?_
      refine w_icmp_ne (tgt := 24) (pc2 := 21) G dX8_above_18 (by decide) rfl (fun cc => ?_) (fun cc => ?_)
      · replace h := (if_neg cc).symm.trans h
        refine w_aload_n (pc2 := 25) G 0 rfl dX8_above_24 rfl rfl ?_
        refine w_get (pc2 := 28) G foX8_293 0 rfl rfl dX8_above_25 rfl ?_
        refine w_bipush (pc2 := 30) G dX8_above_28 k_bipush_8 rfl ?_
        refine w_icmp_ne (tgt := 36) (pc2 := 33) G dX8_above_30 (by decide) rfl (fun cc => ?_) (fun cc => ?_)
        · replace h := (if_neg cc).symm.trans h
          refine w_aload_n (pc2 := 37) G 0 rfl dX8_above_36 rfl rfl ?_
          refine w_get (pc2 := 40) G foX8_13 0 rfl rfl dX8_above_37 rfl ?_
          refine w_aload_n (pc2 := 41) G 0 rfl dX8_above_40 rfl rfl ?_
          refine w_get (pc2 := 44) G foX8_293 0 rfl rfl dX8_above_41 rfl ?_
          refine w_iload_n (pc2 := 45) G 1 rfl dX8_above_44 rfl rfl ?_
          obtain ⟨f3, H_f3, h⟩ := bs h
          refine w_iasto (pc2 := 46) (ws2 := (wX8 E a o c_seed c_is f3 c_sightOther c_sights c_pad c_padMany c_act c_which c_key c_other c_acts c_order c_digest c_tall c_had c_badAct c_badWhy c_alikeAct c_alikeTwo c_work c_isWorked c_trees c_from c_upTo c_shape c_kept c_isKept c_keptAt c_isWriting)) G 2 rfl H_f3 rfl dX8_above_45 rfl ?_
          refine w_aload_n (pc2 := 47) G 0 rfl dX8_above_46 rfl rfl ?_
          refine w_get (pc2 := 50) G foX8_16 0 rfl rfl dX8_above_47 rfl ?_
          refine w_aload_n (pc2 := 51) G 0 rfl dX8_above_50 rfl rfl ?_
          refine w_get (pc2 := 54) G foX8_293 0 rfl rfl dX8_above_51 rfl ?_
          refine w_iload_n (pc2 := 55) G 2 rfl dX8_above_54 rfl rfl ?_
          obtain ⟨f4, H_f4, h⟩ := bs h
          refine w_iasto (pc2 := 56) (ws2 := (wX8 E a o c_seed c_is f3 f4 c_sights c_pad c_padMany c_act c_which c_key c_other c_acts c_order c_digest c_tall c_had c_badAct c_badWhy c_alikeAct c_alikeTwo c_work c_isWorked c_trees c_from c_upTo c_shape c_kept c_isKept c_keptAt c_isWriting)) G 3 rfl H_f4 rfl dX8_above_55 rfl ?_
          refine w_aload_n (pc2 := 57) G 0 rfl dX8_above_56 rfl rfl ?_
          refine w_dup (pc2 := 58) G dX8_above_57 rfl rfl ?_
          refine w_get (pc2 := 61) G foX8_293 0 rfl rfl dX8_above_58 rfl ?_
          refine w_iconst (pc2 := 62) G dX8_above_61 k_iconst_1 rfl ?_
          refine w_iadd (pc2 := 63) G dX8_above_62 rfl ?_
          refine w_put (pc2 := 66) (ws2 := (wX8 E a o c_seed c_is f3 f4 (c_sights + (1 : Int32)) c_pad c_padMany c_act c_which c_key c_other c_acts c_order c_digest c_tall c_had c_badAct c_badWhy c_alikeAct c_alikeTwo c_work c_isWorked c_trees c_from c_upTo c_shape c_kept c_isKept c_keptAt c_isWriting)) G foX8_293 tokX8 0 rfl rfl rfl rfl (Nat.le_of_ble_eq_true rfl) rfl dX8_above_63 rfl ?_
          refine w_aload_n (pc2 := 67) G 0 rfl dX8_above_66 rfl rfl ?_
          refine w_get (pc2 := 70) G foX8_293 0 rfl rfl dX8_above_67 rfl ?_
          cases h
          exact w_iret G hQ rfl ⟨rfl, rfl⟩ dX8_above_70
        · replace h := (if_pos cc).symm.trans h
          refine w_bipush (pc2 := 35) G dX8_above_33 k_bipush_m4 rfl ?_
          cases h
          exact w_iret G hQ rfl ⟨rfl, rfl⟩ dX8_above_35
      · replace h := (if_pos cc).symm.trans h
        refine w_bipush (pc2 := 23) G dX8_above_21 k_bipush_m2 rfl ?_
        cases h
        exact w_iret G hQ rfl ⟨rfl, rfl⟩ dX8_above_23
    · replace h := (if_pos cc).symm.trans h
      refine w_iconst (pc2 := 15) G dX8_above_14 k_iconst_m1 rfl ?_
      cases h
      exact w_iret G hQ rfl ⟨rfl, rfl⟩ dX8_above_15

set_option maxHeartbeats 4000000 in
set_option maxRecDepth 100000 in
theorem r_X8_forget {l : Launch} {E : EV} {a : Nat → Nat} {o : Nat} {c_seed : Int32} {c_is c_sightOne c_sightOther : Nat → Int32} {c_sights : Int32} {c_pad : Nat → Int32} {c_padMany : Int32} {c_act c_which c_key c_other : Nat → Int32} {c_acts : Int32} {c_order : Nat → Int32} {c_digest : Nat → Int64} {c_tall c_had : Nat → Int32} {c_badAct c_badWhy c_alikeAct c_alikeTwo c_work c_isWorked : Int32} {c_trees : Nat → Int64} {c_from c_upTo : Nat → Int32} {c_shape : Nat → Int64} {c_kept c_isKept : Nat → Int32} {c_keptAt c_isWriting : Int32}  {R : Int32 × Int32} (h : f_X8_forget c_sights = some R) : Ret1 l E yX8_forget cX8_forget 2 (some .int) 0 (wX8 E a o c_seed c_is c_sightOne c_sightOther c_sights c_pad c_padMany c_act c_which c_key c_other c_acts c_order c_digest c_tall c_had c_badAct c_badWhy c_alikeAct c_alikeTwo c_work c_isWorked c_trees c_from c_upTo c_shape c_kept c_isKept c_keptAt c_isWriting) [.ref (a o)] (some (.int R.1)) (wX8 E a o c_seed c_is c_sightOne c_sightOther R.2 c_pad c_padMany c_act c_which c_key c_other c_acts c_order c_digest c_tall c_had c_badAct c_badWhy c_alikeAct c_alikeTwo c_work c_isWorked c_trees c_from c_upTo c_shape c_kept c_isKept c_keptAt c_isWriting) := by
  refine Ret.intro (lv := [(0, .ref (a o))]) (by decide) (Nat.le_of_ble_eq_true rfl) rfl ?_
  intro g hgl G hQ
  subst hgl
  rw [f_X8_forget] at h
  refine w_aload_n (pc2 := 1) G 0 rfl dX8_forget_0 rfl rfl ?_
  refine w_get (pc2 := 4) G foX8_293 0 rfl rfl dX8_forget_1 rfl ?_
  refine w_istore_n (pc2 := 5) (lv2 := [(1, .int c_sights), (0, .ref (a o))]) G dX8_forget_4 rfl (Nat.le_of_ble_eq_true rfl) rfl rfl ?_
  refine w_aload_n (pc2 := 6) G 1 rfl dX8_forget_5 rfl rfl ?_
  refine w_iconst (pc2 := 7) G dX8_forget_6 k_iconst_0 rfl ?_
  refine w_put (pc2 := 10) (ws2 := (wX8 E a o c_seed c_is c_sightOne c_sightOther (0 : Int32) c_pad c_padMany c_act c_which c_key c_other c_acts c_order c_digest c_tall c_had c_badAct c_badWhy c_alikeAct c_alikeTwo c_work c_isWorked c_trees c_from c_upTo c_shape c_kept c_isKept c_keptAt c_isWriting)) G foX8_293 tokX8 0 rfl rfl rfl rfl (Nat.le_of_ble_eq_true rfl) rfl dX8_forget_7 rfl ?_
  refine w_iload_n (pc2 := 11) G 0 rfl dX8_forget_10 rfl rfl ?_
  cases h
  exact w_iret G hQ rfl ⟨rfl, rfl⟩ dX8_forget_11

set_option maxHeartbeats 4000000 in
set_option maxRecDepth 100000 in
theorem lp_X8_isFit_4 {g : CX} {E : EV} {a : Nat → Nat} {o : Nat} {c_seed : Int32} {c_is c_pad : Nat → Int32} {c_padMany : Int32} {c_act c_which c_key c_other : Nat → Int32} {c_acts : Int32} {c_order : Nat → Int32} {c_digest : Nat → Int64} {c_tall c_had : Nat → Int32} {c_badAct c_badWhy c_alikeAct c_alikeTwo c_work c_isWorked : Int32} {c_trees : Nat → Int64} {c_from c_upTo : Nat → Int32} {c_shape : Nat → Int64} {c_kept c_isKept : Nat → Int32} {c_keptAt c_isWriting : Int32}  (G : GG g E RX8 cX8_isFit 4 (some .boolean) 2 0 0) : ∀ (n : Nat) (c_sightOne : Nat → Int32) (c_sightOther : Nat → Int32) (c_sights : Int32) (l1 : Int32) (l2 : Int32) (l3 : Int32) (R : Int32), L_X8_isFit_4 n c_sightOne c_sightOther c_sights l1 l2 l3 = some R → WW g E 4 0 0 (wX8 E a o c_seed c_is c_sightOne c_sightOther c_sights c_pad c_padMany c_act c_which c_key c_other c_acts c_order c_digest c_tall c_had c_badAct c_badWhy c_alikeAct c_alikeTwo c_work c_isWorked c_trees c_from c_upTo c_shape c_kept c_isKept c_keptAt c_isWriting) [(2, .int R)] 47 [] → WW g E 4 0 0 (wX8 E a o c_seed c_is c_sightOne c_sightOther c_sights c_pad c_padMany c_act c_which c_key c_other c_acts c_order c_digest c_tall c_had c_badAct c_badWhy c_alikeAct c_alikeTwo c_work c_isWorked c_trees c_from c_upTo c_shape c_kept c_isKept c_keptAt c_isWriting) [(0, .ref (a o)), (1, .int l1), (2, .int l2), (3, .int l3)] 4 [] := by
  intro n
  induction n with
  | zero => intro c_sightOne c_sightOther c_sights l1 l2 l3 R h; exact no_some h
  | succ n ih =>
    intro c_sightOne c_sightOther c_sights l1 l2 l3 R h K
    rw [L_X8_isFit_4] at h
    refine w_iload_n (pc2 := 5) G 3 rfl dX8_isFit_4 rfl rfl ?_
    refine w_aload_n (pc2 := 6) G 0 rfl dX8_isFit_5 rfl rfl ?_
    refine w_get (pc2 := 9) G foX8_293 0 rfl rfl dX8_isFit_6 rfl ?_
    refine w_icmp_ge (tgt := 47) (pc2 := 12) G dX8_isFit_9 (by decide) rfl (fun cc => ?_) (fun cc => ?_)
    · replace h := (if_pos cc).symm.trans h
      cases h
      exact w_lv [2] rfl K
    · replace h := (if_neg cc).symm.trans h
      refine w_iload_n (pc2 := 13) G 2 rfl dX8_isFit_12 rfl rfl ?_
      refine w_if_eq (tgt := 39) (pc2 := 16) G dX8_isFit_13 (by decide) rfl (fun cc => ?_) (fun cc => ?_)
      · replace h := (if_pos cc).symm.trans h
        refine w_iconst (pc2 := 40) G dX8_isFit_39 k_iconst_0 rfl ?_
        refine w_istore_n (pc2 := 41) (lv2 := [(2, .int (0 : Int32)), (0, .ref (a o)), (1, .int l1), (3, .int l3)]) G dX8_isFit_40 rfl (Nat.le_of_ble_eq_true rfl) rfl rfl ?_
        refine w_iinc (pc2 := 44) (lv2 := [(3, .int (l3 + (1 : Int32))), (2, .int (0 : Int32)), (0, .ref (a o)), (1, .int l1)]) G 3 rfl dX8_isFit_41 k_iconst_1 (Nat.le_of_ble_eq_true rfl) rfl rfl ?_
        refine w_goto (tgt := 4) G dX8_isFit_44 (by decide) ?_
        exact w_lv [2, 3, 1, 0] rfl (ih _ _ _ _ _ _ _ h K)
      · replace h := (if_neg cc).symm.trans h
        refine w_iload_n (pc2 := 17) G 1 rfl dX8_isFit_16 rfl rfl ?_
        refine w_aload_n (pc2 := 18) G 0 rfl dX8_isFit_17 rfl rfl ?_
        refine w_get (pc2 := 21) G foX8_13 0 rfl rfl dX8_isFit_18 rfl ?_
        refine w_iload_n (pc2 := 22) G 3 rfl dX8_isFit_21 rfl rfl ?_
        obtain ⟨v1, H_v1, h⟩ := bs h
        refine w_ialdo (pc2 := 23) G 2 rfl H_v1 dX8_isFit_22 rfl ?_
        refine w_aload_n (pc2 := 24) G 0 rfl dX8_isFit_23 rfl rfl ?_
        refine w_get (pc2 := 27) G foX8_16 0 rfl rfl dX8_isFit_24 rfl ?_
        refine w_iload_n (pc2 := 28) G 3 rfl dX8_isFit_27 rfl rfl ?_
        obtain ⟨v2, H_v2, h⟩ := bs h
        refine w_ialdo (pc2 := 29) G 3 rfl H_v2 dX8_isFit_28 rfl ?_
        obtain ⟨x3, H_x3, h⟩ := bs h
        refine w_cS0 (pc2 := 32) (As := [.int l1, .int v1, .int v2]) (rest := []) G koX8_82 (r_X8_ranksBy H_x3) (Nat.le_of_ble_eq_true rfl) rfl rfl (Nat.le_of_ble_eq_true rfl) ⟨Nat.zero_le _, Nat.zero_le _⟩ dX8_isFit_29 rfl rfl ?_
        refine w_if_eq (tgt := 39) (pc2 := 35) G dX8_isFit_32 (by decide) rfl (fun cc => ?_) (fun cc => ?_)
        · replace h := (if_pos cc).symm.trans h
          refine w_iconst (pc2 := 40) G dX8_isFit_39 k_iconst_0 rfl ?_
          refine w_istore_n (pc2 := 41) (lv2 := [(2, .int (0 : Int32)), (0, .ref (a o)), (1, .int l1), (3, .int l3)]) G dX8_isFit_40 rfl (Nat.le_of_ble_eq_true rfl) rfl rfl ?_
          refine w_iinc (pc2 := 44) (lv2 := [(3, .int (l3 + (1 : Int32))), (2, .int (0 : Int32)), (0, .ref (a o)), (1, .int l1)]) G 3 rfl dX8_isFit_41 k_iconst_1 (Nat.le_of_ble_eq_true rfl) rfl rfl ?_
          refine w_goto (tgt := 4) G dX8_isFit_44 (by decide) ?_
          exact w_lv [2, 3, 1, 0] rfl (ih _ _ _ _ _ _ _ h K)
        · replace h := (if_neg cc).symm.trans h
          refine w_iconst (pc2 := 36) G dX8_isFit_35 k_iconst_1 rfl ?_
          refine w_goto (tgt := 40) G dX8_isFit_36 (by decide) ?_
          refine w_istore_n (pc2 := 41) (lv2 := [(2, .int (1 : Int32)), (0, .ref (a o)), (1, .int l1), (3, .int l3)]) G dX8_isFit_40 rfl (Nat.le_of_ble_eq_true rfl) rfl rfl ?_
          refine w_iinc (pc2 := 44) (lv2 := [(3, .int (l3 + (1 : Int32))), (2, .int (1 : Int32)), (0, .ref (a o)), (1, .int l1)]) G 3 rfl dX8_isFit_41 k_iconst_1 (Nat.le_of_ble_eq_true rfl) rfl rfl ?_
          refine w_goto (tgt := 4) G dX8_isFit_44 (by decide) ?_
          exact w_lv [2, 3, 1, 0] rfl (ih _ _ _ _ _ _ _ h K)
set_option maxHeartbeats 4000000 in
set_option maxRecDepth 100000 in
theorem r_X8_isFit {l : Launch} {E : EV} {a : Nat → Nat} {o : Nat} {c_seed : Int32} {c_is c_sightOne c_sightOther : Nat → Int32} {c_sights : Int32} {c_pad : Nat → Int32} {c_padMany : Int32} {c_act c_which c_key c_other : Nat → Int32} {c_acts : Int32} {c_order : Nat → Int32} {c_digest : Nat → Int64} {c_tall c_had : Nat → Int32} {c_badAct c_badWhy c_alikeAct c_alikeTwo c_work c_isWorked : Int32} {c_trees : Nat → Int64} {c_from c_upTo : Nat → Int32} {c_shape : Nat → Int64} {c_kept c_isKept : Nat → Int32} {c_keptAt c_isWriting : Int32} {l1 : Int32} {R : Int32} (h : f_X8_isFit c_sightOne c_sightOther c_sights l1 = some R) : Ret1 l E yX8_isFit cX8_isFit 4 (some .boolean) 2 (wX8 E a o c_seed c_is c_sightOne c_sightOther c_sights c_pad c_padMany c_act c_which c_key c_other c_acts c_order c_digest c_tall c_had c_badAct c_badWhy c_alikeAct c_alikeTwo c_work c_isWorked c_trees c_from c_upTo c_shape c_kept c_isKept c_keptAt c_isWriting) [.ref (a o), .int l1] (some (.int R)) (wX8 E a o c_seed c_is c_sightOne c_sightOther c_sights c_pad c_padMany c_act c_which c_key c_other c_acts c_order c_digest c_tall c_had c_badAct c_badWhy c_alikeAct c_alikeTwo c_work c_isWorked c_trees c_from c_upTo c_shape c_kept c_isKept c_keptAt c_isWriting) := by
  refine Ret.intro (lv := [(0, .ref (a o)), (1, .int l1)]) (by decide) (Nat.le_of_ble_eq_true rfl) rfl ?_
  intro g hgl G hQ
  subst hgl
  rw [f_X8_isFit] at h
  refine w_iconst (pc2 := 1) G dX8_isFit_0 k_iconst_1 rfl ?_
  refine w_istore_n (pc2 := 2) (lv2 := [(2, .int (1 : Int32)), (0, .ref (a o)), (1, .int l1)]) G dX8_isFit_1 rfl (Nat.le_of_ble_eq_true rfl) rfl rfl ?_
  refine w_iconst (pc2 := 3) G dX8_isFit_2 k_iconst_0 rfl ?_
  refine w_istore_n (pc2 := 4) (lv2 := [(3, .int (0 : Int32)), (2, .int (1 : Int32)), (0, .ref (a o)), (1, .int l1)]) G dX8_isFit_3 rfl (Nat.le_of_ble_eq_true rfl) rfl rfl ?_
  obtain ⟨x1, h0, h⟩ := bs h
  have K_x1 : WW g E 4 0 0 (wX8 E a o c_seed c_is c_sightOne c_sightOther c_sights c_pad c_padMany c_act c_which c_key c_other c_acts c_order c_digest c_tall c_had c_badAct c_badWhy c_alikeAct c_alikeTwo c_work c_isWorked c_trees c_from c_upTo c_shape c_kept c_isKept c_keptAt c_isWriting) [(2, .int x1)] 47 [] := by
    clear h0
    refine w_iload_n (pc2 := 48) G 0 rfl dX8_isFit_47 rfl rfl ?_
    obtain ⟨v2, H_v2, h⟩ := bs h
    cases h
    exact w_zret G hQ rfl (bz_some H_v2) ⟨rfl, rfl⟩ dX8_isFit_48
  exact w_lv [2, 3, 1, 0] rfl (lp_X8_isFit_4 G 20000 _ _ _ _ _ _ _ h0 (w_lv [0] rfl K_x1))

set_option maxHeartbeats 4000000 in
set_option maxRecDepth 100000 in
theorem lp_X8_seeds_4 {g : CX} {E : EV} {a : Nat → Nat} {o : Nat} {c_seed : Int32} {c_is c_pad : Nat → Int32} {c_padMany : Int32} {c_act c_which c_key c_other : Nat → Int32} {c_acts : Int32} {c_order : Nat → Int32} {c_digest : Nat → Int64} {c_tall c_had : Nat → Int32} {c_badAct c_badWhy c_alikeAct c_alikeTwo c_work c_isWorked : Int32} {c_trees : Nat → Int64} {c_from c_upTo : Nat → Int32} {c_shape : Nat → Int64} {c_kept c_isKept : Nat → Int32} {c_keptAt c_isWriting : Int32}  (G : GG g E RX8 cX8_seeds 4 (some .int) 3 0 0) {R : Int32} {c_sightOne : Nat → Int32} {c_sightOther : Nat → Int32} {c_sights : Int32} (hQ : RQ g E 0 0 (fun v2 w2 => v2 = (some (.int R)) ∧ w2 = (wX8 E a o c_seed c_is c_sightOne c_sightOther c_sights c_pad c_padMany c_act c_which c_key c_other c_acts c_order c_digest c_tall c_had c_badAct c_badWhy c_alikeAct c_alikeTwo c_work c_isWorked c_trees c_from c_upTo c_shape c_kept c_isKept c_keptAt c_isWriting))) : ∀ (n : Nat) (l1 : Int32) (l2 : Int32) (l3 : Int32), L_X8_seeds_4 n c_sightOne c_sightOther c_sights l1 l2 l3 = some R → WW g E 4 0 0 (wX8 E a o c_seed c_is c_sightOne c_sightOther c_sights c_pad c_padMany c_act c_which c_key c_other c_acts c_order c_digest c_tall c_had c_badAct c_badWhy c_alikeAct c_alikeTwo c_work c_isWorked c_trees c_from c_upTo c_shape c_kept c_isKept c_keptAt c_isWriting) [(0, .ref (a o)), (1, .int l1), (2, .int l2), (3, .int l3)] 4 [] := by
  intro n
  induction n with
  | zero => intro l1 l2 l3 h; exact no_some h
  | succ n ih =>
    intro l1 l2 l3 h
    rw [L_X8_seeds_4] at h
    refine w_iload_n (pc2 := 5) G 3 rfl dX8_seeds_4 rfl rfl ?_
    refine w_sipush (pc2 := 8) G dX8_seeds_5 k_sipush_9999 rfl ?_
    refine w_icmp_gt (tgt := 35) (pc2 := 11) G dX8_seeds_8 (by decide) rfl (fun cc => ?_) (fun cc => ?_)
    · replace h := (if_pos cc).symm.trans h
      refine w_iload_n (pc2 := 36) G 1 rfl dX8_seeds_35 rfl rfl ?_
      refine w_iconst (pc2 := 37) G dX8_seeds_36 k_iconst_m1 rfl ?_
      refine w_icmp_ne (tgt := 44) (pc2 := 40) G dX8_seeds_37 (by decide) rfl (fun cc => ?_) (fun cc => ?_)
      · replace h := (if_neg cc).symm.trans h
        refine w_bipush (pc2 := 46) G dX8_seeds_44 k_bipush_m6 rfl ?_
        cases h
        exact w_iret G hQ rfl ⟨rfl, rfl⟩ dX8_seeds_46
      · replace h := (if_pos cc).symm.trans h
        refine w_iload_n (pc2 := 41) G 2 rfl dX8_seeds_40 rfl rfl ?_
        refine w_goto (tgt := 46) G dX8_seeds_41 (by decide) ?_
        cases h
        exact w_iret G hQ rfl ⟨rfl, rfl⟩ dX8_seeds_46
    · replace h := (if_neg cc).symm.trans h
      refine w_aload_n (pc2 := 12) G 0 rfl dX8_seeds_11 rfl rfl ?_
      refine w_iload_n (pc2 := 13) G 3 rfl dX8_seeds_12 rfl rfl ?_
      obtain ⟨x1, H_x1, h⟩ := bs h
      refine w_cV0 (pc2 := 16) (ws2 := (wX8 E a o c_seed c_is c_sightOne c_sightOther c_sights c_pad c_padMany c_act c_which c_key c_other c_acts c_order c_digest c_tall c_had c_badAct c_badWhy c_alikeAct c_alikeTwo c_work c_isWorked c_trees c_from c_upTo c_shape c_kept c_isKept c_keptAt c_isWriting)) (As := [.int l3]) (rest := []) G koX8_296 (r_X8_isFit H_x1) (Nat.le_of_ble_eq_true rfl) 8 rfl rfl rfl rfl (Nat.le_of_ble_eq_true rfl) ⟨Nat.zero_le _, Nat.zero_le _⟩ dX8_seeds_13 rfl rfl ?_
      refine w_if_eq (tgt := 29) (pc2 := 19) G dX8_seeds_16 (by decide) rfl (fun cc => ?_) (fun cc => ?_)
      · replace h := (if_pos cc).symm.trans h
        refine w_iinc (pc2 := 32) (lv2 := [(3, .int (l3 + (1 : Int32))), (0, .ref (a o)), (1, .int l1), (2, .int l2)]) G 3 rfl dX8_seeds_29 k_iconst_1 (Nat.le_of_ble_eq_true rfl) rfl rfl ?_
        refine w_goto (tgt := 4) G dX8_seeds_32 (by decide) ?_
        exact w_lv [1, 2, 3, 0] rfl (ih _ _ _ h )
      · replace h := (if_neg cc).symm.trans h
        refine w_iload_n (pc2 := 20) G 2 rfl dX8_seeds_19 rfl rfl ?_
        refine w_iload_n (pc2 := 21) G 1 rfl dX8_seeds_20 rfl rfl ?_
        refine w_icmp_ne (tgt := 26) (pc2 := 24) G dX8_seeds_21 (by decide) rfl (fun cc => ?_) (fun cc => ?_)
        · replace h := (if_neg cc).symm.trans h
          refine w_iinc (pc2 := 29) (lv2 := [(2, .int (l2 + (1 : Int32))), (0, .ref (a o)), (1, .int l1), (3, .int l3)]) G 2 rfl dX8_seeds_26 k_iconst_1 (Nat.le_of_ble_eq_true rfl) rfl rfl ?_
          refine w_iinc (pc2 := 32) (lv2 := [(3, .int (l3 + (1 : Int32))), (2, .int (l2 + (1 : Int32))), (0, .ref (a o)), (1, .int l1)]) G 3 rfl dX8_seeds_29 k_iconst_1 (Nat.le_of_ble_eq_true rfl) rfl rfl ?_
          refine w_goto (tgt := 4) G dX8_seeds_32 (by decide) ?_
          exact w_lv [2, 3, 1, 0] rfl (ih _ _ _ h )
        · replace h := (if_pos cc).symm.trans h
          refine w_iload_n (pc2 := 25) G 3 rfl dX8_seeds_24 rfl rfl ?_
          cases h
          exact w_iret G hQ rfl ⟨rfl, rfl⟩ dX8_seeds_25
set_option maxHeartbeats 4000000 in
set_option maxRecDepth 100000 in
theorem r_X8_seeds {l : Launch} {E : EV} {a : Nat → Nat} {o : Nat} {c_seed : Int32} {c_is c_sightOne c_sightOther : Nat → Int32} {c_sights : Int32} {c_pad : Nat → Int32} {c_padMany : Int32} {c_act c_which c_key c_other : Nat → Int32} {c_acts : Int32} {c_order : Nat → Int32} {c_digest : Nat → Int64} {c_tall c_had : Nat → Int32} {c_badAct c_badWhy c_alikeAct c_alikeTwo c_work c_isWorked : Int32} {c_trees : Nat → Int64} {c_from c_upTo : Nat → Int32} {c_shape : Nat → Int64} {c_kept c_isKept : Nat → Int32} {c_keptAt c_isWriting : Int32} {l1 : Int32} {R : Int32} (h : f_X8_seeds c_sightOne c_sightOther c_sights l1 = some R) : Ret1 l E yX8_seeds cX8_seeds 4 (some .int) 3 (wX8 E a o c_seed c_is c_sightOne c_sightOther c_sights c_pad c_padMany c_act c_which c_key c_other c_acts c_order c_digest c_tall c_had c_badAct c_badWhy c_alikeAct c_alikeTwo c_work c_isWorked c_trees c_from c_upTo c_shape c_kept c_isKept c_keptAt c_isWriting) [.ref (a o), .int l1] (some (.int R)) (wX8 E a o c_seed c_is c_sightOne c_sightOther c_sights c_pad c_padMany c_act c_which c_key c_other c_acts c_order c_digest c_tall c_had c_badAct c_badWhy c_alikeAct c_alikeTwo c_work c_isWorked c_trees c_from c_upTo c_shape c_kept c_isKept c_keptAt c_isWriting) := by
  refine Ret.intro (lv := [(0, .ref (a o)), (1, .int l1)]) (by decide) (Nat.le_of_ble_eq_true rfl) rfl ?_
  intro g hgl G hQ
  subst hgl
  rw [f_X8_seeds] at h
  refine w_iconst (pc2 := 1) G dX8_seeds_0 k_iconst_0 rfl ?_
  refine w_istore_n (pc2 := 2) (lv2 := [(2, .int (0 : Int32)), (0, .ref (a o)), (1, .int l1)]) G dX8_seeds_1 rfl (Nat.le_of_ble_eq_true rfl) rfl rfl ?_
  refine w_iconst (pc2 := 3) G dX8_seeds_2 k_iconst_0 rfl ?_
  refine w_istore_n (pc2 := 4) (lv2 := [(3, .int (0 : Int32)), (2, .int (0 : Int32)), (0, .ref (a o)), (1, .int l1)]) G dX8_seeds_3 rfl (Nat.le_of_ble_eq_true rfl) rfl rfl ?_
  exact w_lv [2, 3, 1, 0] rfl (lp_X8_seeds_4 G hQ 20000 _ _ _ h)

set_option maxHeartbeats 4000000 in
set_option maxRecDepth 100000 in
theorem lp_X8_orders_30 {g : CX} {E : EV} {a : Nat → Nat} {o : Nat} {c_seed : Int32} {c_sightOne c_sightOther : Nat → Int32} {c_sights : Int32} {c_pad : Nat → Int32} {c_padMany : Int32} {c_act c_which c_key c_other : Nat → Int32} {c_acts : Int32} {c_order : Nat → Int32} {c_digest : Nat → Int64} {c_tall c_had : Nat → Int32} {c_badAct c_badWhy c_alikeAct c_alikeTwo c_work c_isWorked : Int32} {c_trees : Nat → Int64} {c_from c_upTo : Nat → Int32} {c_shape : Nat → Int64} {c_kept c_isKept : Nat → Int32} {c_keptAt c_isWriting : Int32}  (G : GG g E RX8 cX8_orders 5 (some .long) 5 0 0) : ∀ (n : Nat) (c_is : Nat → Int32) (l1 : Int32) (l2 : Int64) (l4 : Int32) (R : Int64), L_X8_orders_30 n c_is l1 l2 l4 = some R → WW g E 5 0 0 (wX8 E a o c_seed c_is c_sightOne c_sightOther c_sights c_pad c_padMany c_act c_which c_key c_other c_acts c_order c_digest c_tall c_had c_badAct c_badWhy c_alikeAct c_alikeTwo c_work c_isWorked c_trees c_from c_upTo c_shape c_kept c_isKept c_keptAt c_isWriting) [(0, .ref (a o)), (1, .int l1), (2, .long R)] 52 [] → WW g E 5 0 0 (wX8 E a o c_seed c_is c_sightOne c_sightOther c_sights c_pad c_padMany c_act c_which c_key c_other c_acts c_order c_digest c_tall c_had c_badAct c_badWhy c_alikeAct c_alikeTwo c_work c_isWorked c_trees c_from c_upTo c_shape c_kept c_isKept c_keptAt c_isWriting) [(0, .ref (a o)), (1, .int l1), (2, .long l2), (4, .int l4)] 30 [] := by
  intro n
  induction n with
  | zero => intro c_is l1 l2 l4 R h; exact no_some h
  | succ n ih =>
    intro c_is l1 l2 l4 R h K
    rw [L_X8_orders_30] at h
    refine w_iload (pc2 := 32) G 3 rfl dX8_orders_30 rfl ?_
    refine w_aload_n (pc2 := 33) G 0 rfl dX8_orders_32 rfl rfl ?_
    refine w_iload_n (pc2 := 34) G 1 rfl dX8_orders_33 rfl rfl ?_
    obtain ⟨x1, H_x1, h⟩ := bs h
    refine w_cV0 (pc2 := 37) (ws2 := (wX8 E a o c_seed c_is c_sightOne c_sightOther c_sights c_pad c_padMany c_act c_which c_key c_other c_acts c_order c_digest c_tall c_had c_badAct c_badWhy c_alikeAct c_alikeTwo c_work c_isWorked c_trees c_from c_upTo c_shape c_kept c_isKept c_keptAt c_isWriting)) (As := [.int l1]) (rest := [.int l4]) G koX8_99 (r_X8_many H_x1) (Nat.le_of_ble_eq_true rfl) 8 rfl rfl rfl rfl (Nat.le_of_ble_eq_true rfl) ⟨Nat.zero_le _, Nat.zero_le _⟩ dX8_orders_34 rfl rfl ?_
    refine w_icmp_gt (tgt := 52) (pc2 := 40) G dX8_orders_37 (by decide) rfl (fun cc => ?_) (fun cc => ?_)
    · replace h := (if_pos cc).symm.trans h
      cases h
      exact w_lv [0, 1, 2] rfl K
    · replace h := (if_neg cc).symm.trans h
      refine w_lload_n (pc2 := 41) G 2 rfl dX8_orders_40 rfl rfl ?_
      refine w_iload (pc2 := 43) G 3 rfl dX8_orders_41 rfl ?_
      refine w_i2l (pc2 := 44) G dX8_orders_43 rfl ?_
      refine w_lmul (pc2 := 45) G dX8_orders_44 rfl ?_
      refine w_lstore_n (pc2 := 46) (lv2 := [(2, .long (l2 * l4.toInt64)), (0, .ref (a o)), (1, .int l1), (4, .int l4)]) G dX8_orders_45 rfl (Nat.le_of_ble_eq_true rfl) rfl rfl ?_
      refine w_iinc (pc2 := 49) (lv2 := [(4, .int (l4 + (1 : Int32))), (2, .long (l2 * l4.toInt64)), (0, .ref (a o)), (1, .int l1)]) G 3 rfl dX8_orders_46 k_iconst_1 (Nat.le_of_ble_eq_true rfl) rfl rfl ?_
      refine w_goto (tgt := 30) G dX8_orders_49 (by decide) ?_
      exact w_lv [2, 3, 1, 0] rfl (ih _ _ _ _ _ h K)
set_option maxHeartbeats 4000000 in
set_option maxRecDepth 100000 in
theorem lp_X8_orders_55 {g : CX} {E : EV} {a : Nat → Nat} {o : Nat} {c_sightOne c_sightOther : Nat → Int32} {c_sights : Int32} {c_pad : Nat → Int32} {c_padMany : Int32} {c_act c_which c_key c_other : Nat → Int32} {c_acts : Int32} {c_order : Nat → Int32} {c_digest : Nat → Int64} {c_tall c_had : Nat → Int32} {c_badAct c_badWhy c_alikeAct c_alikeTwo c_work c_isWorked : Int32} {c_trees : Nat → Int64} {c_from c_upTo : Nat → Int32} {c_shape : Nat → Int64} {c_kept c_isKept : Nat → Int32} {c_keptAt c_isWriting : Int32}  (G : GG g E RX8 cX8_orders 5 (some .long) 5 0 0) : ∀ (n : Nat) (c_seed : Int32) (c_is : Nat → Int32) (l1 : Int32) (l2 : Int64) (l4 : Int32) (R : Int64), L_X8_orders_55 n c_seed c_is l1 l2 l4 = some R → WW g E 5 0 0 (wX8 E a o c_seed c_is c_sightOne c_sightOther c_sights c_pad c_padMany c_act c_which c_key c_other c_acts c_order c_digest c_tall c_had c_badAct c_badWhy c_alikeAct c_alikeTwo c_work c_isWorked c_trees c_from c_upTo c_shape c_kept c_isKept c_keptAt c_isWriting) [(2, .long R)] 96 [] → WW g E 5 0 0 (wX8 E a o c_seed c_is c_sightOne c_sightOther c_sights c_pad c_padMany c_act c_which c_key c_other c_acts c_order c_digest c_tall c_had c_badAct c_badWhy c_alikeAct c_alikeTwo c_work c_isWorked c_trees c_from c_upTo c_shape c_kept c_isKept c_keptAt c_isWriting) [(0, .ref (a o)), (1, .int l1), (2, .long l2), (4, .int l4)] 55 [] := by
  intro n
  induction n with
  | zero => intro c_seed c_is l1 l2 l4 R h; exact no_some h
  | succ n ih =>
    intro c_seed c_is l1 l2 l4 R h K
    rw [L_X8_orders_55] at h
    refine w_iload (pc2 := 57) G 3 rfl dX8_orders_55 rfl ?_
    refine w_bipush (pc2 := 59) G dX8_orders_57 k_bipush_50 rfl ?_
    refine w_icmp_ge (tgt := 96) (pc2 := 62) G dX8_orders_59 (by decide) rfl (fun cc => ?_) (fun cc => ?_)
    · replace h := (if_pos cc).symm.trans h
      cases h
      exact w_lv [2] rfl K
    · replace h := (if_neg cc).symm.trans h
      refine w_lload_n (pc2 := 63) G 2 rfl dX8_orders_62 rfl rfl ?_
      refine w_aload_n (pc2 := 64) G 0 rfl dX8_orders_63 rfl rfl ?_
      refine w_iload_n (pc2 := 65) G 1 rfl dX8_orders_64 rfl rfl ?_
      refine w_iload (pc2 := 67) G 3 rfl dX8_orders_65 rfl ?_
      obtain ⟨x1, H_x1, h⟩ := bs h
      refine w_cV0 (pc2 := 70) (ws2 := (wX8 E a o c_seed c_is c_sightOne c_sightOther c_sights c_pad c_padMany c_act c_which c_key c_other c_acts c_order c_digest c_tall c_had c_badAct c_badWhy c_alikeAct c_alikeTwo c_work c_isWorked c_trees c_from c_upTo c_shape c_kept c_isKept c_keptAt c_isWriting)) (As := [.int l1, .int l4]) (rest := [.long l2]) G koX8_95 (r_X8_has H_x1) (Nat.le_of_ble_eq_true rfl) 8 rfl rfl rfl rfl (Nat.le_of_ble_eq_true rfl) ⟨Nat.zero_le _, Nat.zero_le _⟩ dX8_orders_67 rfl rfl ?_
      refine w_if_eq (tgt := 87) (pc2 := 73) G dX8_orders_70 (by decide) rfl (fun cc => ?_) (fun cc => ?_)
      · replace h := (if_pos cc).symm.trans h
        refine w_lconst (pc2 := 88) G dX8_orders_87 k_lconst_1 rfl ?_
        refine w_ldiv (pc2 := 89) G dX8_orders_88 (by decide) rfl ?_
        refine w_lstore_n (pc2 := 90) (lv2 := [(2, .long (l2 / (1 : Int64))), (0, .ref (a o)), (1, .int l1), (4, .int l4)]) G dX8_orders_89 rfl (Nat.le_of_ble_eq_true rfl) rfl rfl ?_
        refine w_iinc (pc2 := 93) (lv2 := [(4, .int (l4 + (1 : Int32))), (2, .long (l2 / (1 : Int64))), (0, .ref (a o)), (1, .int l1)]) G 3 rfl dX8_orders_90 k_iconst_1 (Nat.le_of_ble_eq_true rfl) rfl rfl ?_
        refine w_goto (tgt := 55) G dX8_orders_93 (by decide) ?_
        exact w_lv [2, 3, 1, 0] rfl (ih _ _ _ _ _ _ h K)
      · replace h := (if_neg cc).symm.trans h
        refine w_aload_n (pc2 := 74) G 0 rfl dX8_orders_73 rfl rfl ?_
        refine w_iload_n (pc2 := 75) G 1 rfl dX8_orders_74 rfl rfl ?_
        refine w_iload (pc2 := 77) G 3 rfl dX8_orders_75 rfl ?_
        obtain ⟨x2, H_x2, h⟩ := bs h
        refine w_cV0 (pc2 := 80) (ws2 := (wX8 E a o c_seed c_is c_sightOne c_sightOther c_sights c_pad c_padMany c_act c_which c_key c_other c_acts c_order c_digest c_tall c_had c_badAct c_badWhy c_alikeAct c_alikeTwo c_work c_isWorked c_trees c_from c_upTo c_shape c_kept c_isKept c_keptAt c_isWriting)) (As := [.int l1, .int l4]) (rest := [.long l2]) G koX8_193 (r_X8_treeOf H_x2) (Nat.le_of_ble_eq_true rfl) 8 rfl rfl rfl rfl (Nat.le_of_ble_eq_true rfl) ⟨Nat.zero_le _, Nat.zero_le _⟩ dX8_orders_77 rfl rfl ?_
        obtain ⟨x3, H_x3, h⟩ := bs h
        refine w_cS0 (pc2 := 83) (As := [.long x2]) (rest := [.long l2]) G koX8_271 (r_X8_ones H_x3) (Nat.le_of_ble_eq_true rfl) rfl rfl (Nat.le_of_ble_eq_true rfl) ⟨Nat.zero_le _, Nat.zero_le _⟩ dX8_orders_80 rfl rfl ?_
        refine w_i2l (pc2 := 84) G dX8_orders_83 rfl ?_
        refine w_goto (tgt := 88) G dX8_orders_84 (by decide) ?_
        obtain ⟨v4, H_v4, h⟩ := bs h
        refine w_ldivo (pc2 := 89) G H_v4 dX8_orders_88 rfl ?_
        refine w_lstore_n (pc2 := 90) (lv2 := [(2, .long v4), (0, .ref (a o)), (1, .int l1), (4, .int l4)]) G dX8_orders_89 rfl (Nat.le_of_ble_eq_true rfl) rfl rfl ?_
        refine w_iinc (pc2 := 93) (lv2 := [(4, .int (l4 + (1 : Int32))), (2, .long v4), (0, .ref (a o)), (1, .int l1)]) G 3 rfl dX8_orders_90 k_iconst_1 (Nat.le_of_ble_eq_true rfl) rfl rfl ?_
        refine w_goto (tgt := 55) G dX8_orders_93 (by decide) ?_
        exact w_lv [2, 3, 1, 0] rfl (ih _ _ _ _ _ _ h K)
set_option maxHeartbeats 4000000 in
set_option maxRecDepth 100000 in
theorem r_X8_orders {l : Launch} {E : EV} {a : Nat → Nat} {o : Nat} {c_seed : Int32} {c_is c_sightOne c_sightOther : Nat → Int32} {c_sights : Int32} {c_pad : Nat → Int32} {c_padMany : Int32} {c_act c_which c_key c_other : Nat → Int32} {c_acts : Int32} {c_order : Nat → Int32} {c_digest : Nat → Int64} {c_tall c_had : Nat → Int32} {c_badAct c_badWhy c_alikeAct c_alikeTwo c_work c_isWorked : Int32} {c_trees : Nat → Int64} {c_from c_upTo : Nat → Int32} {c_shape : Nat → Int64} {c_kept c_isKept : Nat → Int32} {c_keptAt c_isWriting : Int32} {l1 : Int32} {R : Int64} (h : f_X8_orders c_seed c_is l1 = some R) : Ret1 l E yX8_orders cX8_orders 5 (some .long) 5 (wX8 E a o c_seed c_is c_sightOne c_sightOther c_sights c_pad c_padMany c_act c_which c_key c_other c_acts c_order c_digest c_tall c_had c_badAct c_badWhy c_alikeAct c_alikeTwo c_work c_isWorked c_trees c_from c_upTo c_shape c_kept c_isKept c_keptAt c_isWriting) [.ref (a o), .int l1] (some (.long R)) (wX8 E a o c_seed c_is c_sightOne c_sightOther c_sights c_pad c_padMany c_act c_which c_key c_other c_acts c_order c_digest c_tall c_had c_badAct c_badWhy c_alikeAct c_alikeTwo c_work c_isWorked c_trees c_from c_upTo c_shape c_kept c_isKept c_keptAt c_isWriting) := by
  refine Ret.intro (lv := [(0, .ref (a o)), (1, .int l1)]) (by decide) (Nat.le_of_ble_eq_true rfl) rfl ?_
  intro g hgl G hQ
  subst hgl
  rw [f_X8_orders] at h
  refine w_iload_n (pc2 := 1) G 1 rfl dX8_orders_0 rfl rfl ?_
  obtain ⟨x1, H_x1, h⟩ := bs h
  refine w_cS0 (pc2 := 4) (As := [.int l1]) (rest := []) G koX8_88 (r_X8_isSet H_x1) (Nat.le_of_ble_eq_true rfl) rfl rfl (Nat.le_of_ble_eq_true rfl) ⟨Nat.zero_le _, Nat.zero_le _⟩ dX8_orders_1 rfl rfl ?_
  refine w_if_ne (tgt := 11) (pc2 := 7) G dX8_orders_4 (by decide) rfl (fun cc => ?_) (fun cc => ?_)
  · replace h := (if_neg cc).symm.trans h
    refine w_aload_n (pc2 := 12) G 0 rfl dX8_orders_11 rfl rfl ?_
    refine w_iload_n (pc2 := 13) G 1 rfl dX8_orders_12 rfl rfl ?_
    obtain ⟨x2, H_x2, h⟩ := bs h
    refine w_cV0 (pc2 := 16) (ws2 := (wX8 E a o c_seed c_is c_sightOne c_sightOther c_sights c_pad c_padMany c_act c_which c_key c_other c_acts c_order c_digest c_tall c_had c_badAct c_badWhy c_alikeAct c_alikeTwo c_work c_isWorked c_trees c_from c_upTo c_shape c_kept c_isKept c_keptAt c_isWriting)) (As := [.int l1]) (rest := []) G koX8_99 (r_X8_many H_x2) (Nat.le_of_ble_eq_true rfl) 8 rfl rfl rfl rfl (Nat.le_of_ble_eq_true rfl) ⟨Nat.zero_le _, Nat.zero_le _⟩ dX8_orders_13 rfl rfl ?_
    refine w_bipush (pc2 := 18) G dX8_orders_16 k_bipush_20 rfl ?_
    refine w_icmp_le (tgt := 25) (pc2 := 21) G dX8_orders_18 (by decide) rfl (fun cc => ?_) (fun cc => ?_)
    · replace h := (if_pos cc).symm.trans h
      refine w_lconst (pc2 := 26) G dX8_orders_25 k_lconst_1 rfl ?_
      refine w_lstore_n (pc2 := 27) (lv2 := [(2, .long (1 : Int64)), (0, .ref (a o)), (1, .int l1)]) G dX8_orders_26 rfl (Nat.le_of_ble_eq_true rfl) rfl rfl ?_
      refine w_iconst (pc2 := 28) G dX8_orders_27 k_iconst_2 rfl ?_
      refine w_istore (pc2 := 30) (lv2 := [(4, .int (2 : Int32)), (2, .long (1 : Int64)), (0, .ref (a o)), (1, .int l1)]) G dX8_orders_28 (Nat.le_of_ble_eq_true rfl) rfl rfl ?_
      obtain ⟨x3, h0, h⟩ := bs h
      have K_x3 : WW g E 5 0 0 (wX8 E a o c_seed c_is c_sightOne c_sightOther c_sights c_pad c_padMany c_act c_which c_key c_other c_acts c_order c_digest c_tall c_had c_badAct c_badWhy c_alikeAct c_alikeTwo c_work c_isWorked c_trees c_from c_upTo c_shape c_kept c_isKept c_keptAt c_isWriting) [(0, .ref (a o)), (1, .int l1), (2, .long x3)] 52 [] := by
        clear h0
        refine w_iconst (pc2 := 53) G dX8_orders_52 k_iconst_0 rfl ?_
        refine w_istore (pc2 := 55) (lv2 := [(4, .int (0 : Int32)), (0, .ref (a o)), (1, .int l1), (2, .long x3)]) G dX8_orders_53 (Nat.le_of_ble_eq_true rfl) rfl rfl ?_
        obtain ⟨x4, h0, h⟩ := bs h
        have K_x4 : WW g E 5 0 0 (wX8 E a o c_seed c_is c_sightOne c_sightOther c_sights c_pad c_padMany c_act c_which c_key c_other c_acts c_order c_digest c_tall c_had c_badAct c_badWhy c_alikeAct c_alikeTwo c_work c_isWorked c_trees c_from c_upTo c_shape c_kept c_isKept c_keptAt c_isWriting) [(2, .long x4)] 96 [] := by
          clear h0
          refine w_lload_n (pc2 := 97) G 0 rfl dX8_orders_96 rfl rfl ?_
          cases h
          exact w_lret G hQ rfl ⟨rfl, rfl⟩ dX8_orders_97
        exact w_lv [1, 2, 3, 0] rfl (lp_X8_orders_55 G 20000 _ _ _ _ _ _ h0 (w_lv [0] rfl K_x4))
      exact w_lv [2, 3, 1, 0] rfl (lp_X8_orders_30 G 20000 _ _ _ _ _ h0 (w_lv [0, 1, 2] rfl K_x3))
    · replace h := (if_neg cc).symm.trans h
      refine w_ldc2 (pc2 := 24) G wd_350 dX8_orders_21 rfl ?_
      cases h
      exact w_lret G hQ rfl ⟨rfl, rfl⟩ dX8_orders_24
  · replace h := (if_pos cc).symm.trans h
    refine w_ldc2 (pc2 := 10) G wd_351 dX8_orders_7 rfl ?_
    cases h
    exact w_lret G hQ rfl ⟨rfl, rfl⟩ dX8_orders_10
