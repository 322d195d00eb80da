set_option maxHeartbeats 4000000 in
set_option maxRecDepth 100000 in
theorem lp_X8_isBeyond_6 {g : CX} {E : EV} {a : Nat → Nat} {o : Nat} {c_seed : Int32} {c_sightOne c_sightOther : Nat → Int32} {c_sights : Int32} {c_pad : Nat → Int32} {c_padMany : Int32} {c_act c_which c_key c_other : Nat → Int32} {c_acts : Int32} {c_order : Nat → Int32} {c_digest : Nat → Int64} {c_tall c_had : Nat → Int32} {c_badAct c_badWhy c_alikeAct c_alikeTwo c_work c_isWorked : Int32} {c_trees : Nat → Int64} {c_from c_upTo : Nat → Int32} {c_shape : Nat → Int64} {c_kept c_isKept : Nat → Int32} {c_keptAt c_isWriting : Int32} {l2 : Int32} (G : GG g E RX8 cX8_isBeyond 6 (some .boolean) 1 0 0) : ∀ (n : Nat) (c_is : Nat → Int32) (l1 : Int32) (l3 : Int32) (l4 : Int32) (R : Int32), L_X8_isBeyond_6 n c_is l1 l3 l4 = some R → WW g E 6 0 0 (wX8 E a o c_seed c_is c_sightOne c_sightOther c_sights c_pad c_padMany c_act c_which c_key c_other c_acts c_order c_digest c_tall c_had c_badAct c_badWhy c_alikeAct c_alikeTwo c_work c_isWorked c_trees c_from c_upTo c_shape c_kept c_isKept c_keptAt c_isWriting) [(0, .ref (a o)), (2, .int l2), (3, .int R)] 36 [] → WW g E 6 0 0 (wX8 E a o c_seed c_is c_sightOne c_sightOther c_sights c_pad c_padMany c_act c_which c_key c_other c_acts c_order c_digest c_tall c_had c_badAct c_badWhy c_alikeAct c_alikeTwo c_work c_isWorked c_trees c_from c_upTo c_shape c_kept c_isKept c_keptAt c_isWriting) [(0, .ref (a o)), (1, .int l1), (2, .int l2), (3, .int l3), (4, .int l4)] 6 [] := by
  intro n
  induction n with
  | zero => intro c_is l1 l3 l4 R h; exact no_some h
  | succ n ih =>
    intro c_is l1 l3 l4 R h K
    rw [L_X8_isBeyond_6] at h
    refine w_iload (pc2 := 8) G 4 rfl dX8_isBeyond_6 rfl ?_
    refine w_bipush (pc2 := 10) G dX8_isBeyond_8 k_bipush_50 rfl ?_
    refine w_icmp_ge (tgt := 36) (pc2 := 13) G dX8_isBeyond_10 (by decide) rfl (fun cc => ?_) (fun cc => ?_)
    · replace h := (if_pos cc).symm.trans h
      cases h
      exact w_lv [0, 2, 3] rfl K
    · replace h := (if_neg cc).symm.trans h
      refine w_aload_n (pc2 := 14) G 0 rfl dX8_isBeyond_13 rfl rfl ?_
      refine w_iload_n (pc2 := 15) G 1 rfl dX8_isBeyond_14 rfl rfl ?_
      refine w_iload (pc2 := 17) G 4 rfl dX8_isBeyond_15 rfl ?_
      obtain ⟨x1, H_x1, h⟩ := bs h
      refine w_cV0 (pc2 := 20) (ws2 := (wX8 E a o c_seed c_is c_sightOne c_sightOther c_sights c_pad c_padMany c_act c_which c_key c_other c_acts c_order c_digest c_tall c_had c_badAct c_badWhy c_alikeAct c_alikeTwo c_work c_isWorked c_trees c_from c_upTo c_shape c_kept c_isKept c_keptAt c_isWriting)) (As := [.int l1, .int l4]) (rest := []) G koX8_95 (r_X8_has H_x1) (Nat.le_of_ble_eq_true rfl) 8 rfl rfl rfl rfl (Nat.le_of_ble_eq_true rfl) ⟨Nat.zero_le _, Nat.zero_le _⟩ dX8_isBeyond_17 rfl rfl ?_
      refine w_if_eq (tgt := 28) (pc2 := 23) G dX8_isBeyond_20 (by decide) rfl (fun cc => ?_) (fun cc => ?_)
      · replace h := (if_pos cc).symm.trans h
        refine w_iload_n (pc2 := 29) G 3 rfl dX8_isBeyond_28 rfl rfl ?_
        refine w_istore_n (pc2 := 30) (lv2 := [(3, .int l3), (0, .ref (a o)), (1, .int l1), (2, .int l2), (4, .int l4)]) G dX8_isBeyond_29 rfl (Nat.le_of_ble_eq_true rfl) rfl rfl ?_
        refine w_iinc (pc2 := 33) (lv2 := [(4, .int (l4 + (1 : Int32))), (3, .int l3), (0, .ref (a o)), (1, .int l1), (2, .int l2)]) G 4 rfl dX8_isBeyond_30 k_iconst_1 (Nat.le_of_ble_eq_true rfl) rfl rfl ?_
        refine w_goto (tgt := 6) G dX8_isBeyond_33 (by decide) ?_
        exact w_lv [2, 3, 4, 1, 0] rfl (ih _ _ _ _ _ h K)
      · replace h := (if_neg cc).symm.trans h
        refine w_iload (pc2 := 25) G 4 rfl dX8_isBeyond_23 rfl ?_
        refine w_goto (tgt := 29) G dX8_isBeyond_25 (by decide) ?_
        refine w_istore_n (pc2 := 30) (lv2 := [(3, .int l4), (0, .ref (a o)), (1, .int l1), (2, .int l2), (4, .int l4)]) G dX8_isBeyond_29 rfl (Nat.le_of_ble_eq_true rfl) rfl rfl ?_
        refine w_iinc (pc2 := 33) (lv2 := [(4, .int (l4 + (1 : Int32))), (3, .int l4), (0, .ref (a o)), (1, .int l1), (2, .int l2)]) G 4 rfl dX8_isBeyond_30 k_iconst_1 (Nat.le_of_ble_eq_true rfl) rfl rfl ?_
        refine w_goto (tgt := 6) G dX8_isBeyond_33 (by decide) ?_
        exact w_lv [2, 3, 4, 1, 0] rfl (ih _ _ _ _ _ h K)
set_option maxHeartbeats 4000000 in
set_option maxRecDepth 100000 in
theorem lp_X8_isBeyond_42 {g : CX} {E : EV} {a : Nat → Nat} {o : Nat} {c_seed : Int32} {c_sightOne c_sightOther : Nat → Int32} {c_sights : Int32} {c_pad : Nat → Int32} {c_padMany : Int32} {c_act c_which c_key c_other : Nat → Int32} {c_acts : Int32} {c_order : Nat → Int32} {c_digest : Nat → Int64} {c_tall c_had : Nat → Int32} {c_badAct c_badWhy c_alikeAct c_alikeTwo c_work c_isWorked : Int32} {c_trees : Nat → Int64} {c_from c_upTo : Nat → Int32} {c_shape : Nat → Int64} {c_kept c_isKept : Nat → Int32} {c_keptAt c_isWriting : Int32}  (G : GG g E RX8 cX8_isBeyond 6 (some .boolean) 1 0 0) : ∀ (n : Nat) (c_is : Nat → Int32) (l2 : Int32) (l3 : Int32) (l4 : Int32) (l5 : Int32) (R : Int32), L_X8_isBeyond_42 n c_is l2 l3 l4 l5 = some R → WW g E 6 0 0 (wX8 E a o c_seed c_is c_sightOne c_sightOther c_sights c_pad c_padMany c_act c_which c_key c_other c_acts c_order c_digest c_tall c_had c_badAct c_badWhy c_alikeAct c_alikeTwo c_work c_isWorked c_trees c_from c_upTo c_shape c_kept c_isKept c_keptAt c_isWriting) [(4, .int R)] 83 [] → WW g E 6 0 0 (wX8 E a o c_seed c_is c_sightOne c_sightOther c_sights c_pad c_padMany c_act c_which c_key c_other c_acts c_order c_digest c_tall c_had c_badAct c_badWhy c_alikeAct c_alikeTwo c_work c_isWorked c_trees c_from c_upTo c_shape c_kept c_isKept c_keptAt c_isWriting) [(0, .ref (a o)), (2, .int l2), (3, .int l3), (4, .int l4), (5, .int l5)] 42 [] := by
  intro n
  induction n with
  | zero => intro c_is l2 l3 l4 l5 R h; exact no_some h
  | succ n ih =>
    intro c_is l2 l3 l4 l5 R h K
    rw [L_X8_isBeyond_42] at h
    refine w_iload (pc2 := 44) G 4 rfl dX8_isBeyond_42 rfl ?_
    refine w_bipush (pc2 := 46) G dX8_isBeyond_44 k_bipush_50 rfl ?_
    refine w_icmp_ge (tgt := 83) (pc2 := 49) G dX8_isBeyond_46 (by decide) rfl (fun cc => ?_) (fun cc => ?_)
    · replace h := (if_pos cc).symm.trans h
      cases h
      exact w_lv [3] rfl K
    · replace h := (if_neg cc).symm.trans h
      refine w_iload (pc2 := 51) G 3 rfl dX8_isBeyond_49 rfl ?_
      refine w_if_eq (tgt := 74) (pc2 := 54) G dX8_isBeyond_51 (by decide) rfl (fun cc => ?_) (fun cc => ?_)
      · replace h := (if_pos cc).symm.trans h
        refine w_iconst (pc2 := 75) G dX8_isBeyond_74 k_iconst_0 rfl ?_
        refine w_istore (pc2 := 77) (lv2 := [(4, .int (0 : Int32)), (0, .ref (a o)), (2, .int l2), (3, .int l3), (5, .int l5)]) G dX8_isBeyond_75 (Nat.le_of_ble_eq_true rfl) rfl rfl ?_
        refine w_iinc (pc2 := 80) (lv2 := [(5, .int (l5 + (1 : Int32))), (4, .int (0 : Int32)), (0, .ref (a o)), (2, .int l2), (3, .int l3)]) G 4 rfl dX8_isBeyond_77 k_iconst_1 (Nat.le_of_ble_eq_true rfl) rfl rfl ?_
        refine w_goto (tgt := 42) G dX8_isBeyond_80 (by decide) ?_
        exact w_lv [2, 3, 4, 1, 0] rfl (ih _ _ _ _ _ _ h K)
      · replace h := (if_neg cc).symm.trans h
        refine w_aload_n (pc2 := 55) G 0 rfl dX8_isBeyond_54 rfl rfl ?_
        refine w_iload_n (pc2 := 56) G 1 rfl dX8_isBeyond_55 rfl rfl ?_
        refine w_iload (pc2 := 58) G 4 rfl dX8_isBeyond_56 rfl ?_
        obtain ⟨x1, H_x1, h⟩ := bs h
        refine w_cV0 (pc2 := 61) (ws2 := (wX8 E a o c_seed c_is c_sightOne c_sightOther c_sights c_pad c_padMany c_act c_which c_key c_other c_acts c_order c_digest c_tall c_had c_badAct c_badWhy c_alikeAct c_alikeTwo c_work c_isWorked c_trees c_from c_upTo c_shape c_kept c_isKept c_keptAt c_isWriting)) (As := [.int l2, .int l5]) (rest := []) G koX8_95 (r_X8_has H_x1) (Nat.le_of_ble_eq_true rfl) 8 rfl rfl rfl rfl (Nat.le_of_ble_eq_true rfl) ⟨Nat.zero_le _, Nat.zero_le _⟩ dX8_isBeyond_58 rfl rfl ?_
        refine w_if_eq (tgt := 70) (pc2 := 64) G dX8_isBeyond_61 (by decide) rfl (fun cc => ?_) (fun cc => ?_)
        · replace h := (if_pos cc).symm.trans h
          refine w_iconst (pc2 := 71) G dX8_isBeyond_70 k_iconst_1 rfl ?_
          refine w_goto (tgt := 75) G dX8_isBeyond_71 (by decide) ?_
          refine w_istore (pc2 := 77) (lv2 := [(4, .int (1 : Int32)), (0, .ref (a o)), (2, .int l2), (3, .int l3), (5, .int l5)]) G dX8_isBeyond_75 (Nat.le_of_ble_eq_true rfl) rfl rfl ?_
          refine w_iinc (pc2 := 80) (lv2 := [(5, .int (l5 + (1 : Int32))), (4, .int (1 : Int32)), (0, .ref (a o)), (2, .int l2), (3, .int l3)]) G 4 rfl dX8_isBeyond_77 k_iconst_1 (Nat.le_of_ble_eq_true rfl) rfl rfl ?_
          refine w_goto (tgt := 42) G dX8_isBeyond_80 (by decide) ?_
          exact w_lv [2, 3, 4, 1, 0] rfl (ih _ _ _ _ _ _ h K)
        · replace h := (if_neg cc).symm.trans h
          refine w_iload (pc2 := 66) G 4 rfl dX8_isBeyond_64 rfl ?_
          refine w_iload_n (pc2 := 67) G 2 rfl dX8_isBeyond_66 rfl rfl ?_
          refine w_icmp_le (tgt := 74) (pc2 := 70) G dX8_isBeyond_67 (by decide) rfl (fun cc => ?_) (fun cc => ?_)
          · replace h := (if_pos cc).symm.trans h
            refine w_iconst (pc2 := 75) G dX8_isBeyond_74 k_iconst_0 rfl ?_
            refine w_istore (pc2 := 77) (lv2 := [(4, .int (0 : Int32)), (0, .ref (a o)), (2, .int l2), (3, .int l3), (5, .int l5)]) G dX8_isBeyond_75 (Nat.le_of_ble_eq_true rfl) rfl rfl ?_
            refine w_iinc (pc2 := 80) (lv2 := [(5, .int (l5 + (1 : Int32))), (4, .int (0 : Int32)), (0, .ref (a o)), (2, .int l2), (3, .int l3)]) G 4 rfl dX8_isBeyond_77 k_iconst_1 (Nat.le_of_ble_eq_true rfl) rfl rfl ?_
            refine w_goto (tgt := 42) G dX8_isBeyond_80 (by decide) ?_
            exact w_lv [2, 3, 4, 1, 0] rfl (ih _ _ _ _ _ _ h K)
          · replace h := (if_neg cc).symm.trans h
            refine w_iconst (pc2 := 71) G dX8_isBeyond_70 k_iconst_1 rfl ?_
            refine w_goto (tgt := 75) G dX8_isBeyond_71 (by decide) ?_
            refine w_istore (pc2 := 77) (lv2 := [(4, .int (1 : Int32)), (0, .ref (a o)), (2, .int l2), (3, .int l3), (5, .int l5)]) G dX8_isBeyond_75 (Nat.le_of_ble_eq_true rfl) rfl rfl ?_
            refine w_iinc (pc2 := 80) (lv2 := [(5, .int (l5 + (1 : Int32))), (4, .int (1 : Int32)), (0, .ref (a o)), (2, .int l2), (3, .int l3)]) G 4 rfl dX8_isBeyond_77 k_iconst_1 (Nat.le_of_ble_eq_true rfl) rfl rfl ?_
            refine w_goto (tgt := 42) G dX8_isBeyond_80 (by decide) ?_
            exact w_lv [2, 3, 4, 1, 0] rfl (ih _ _ _ _ _ _ h K)
set_option maxHeartbeats 4000000 in
set_option maxRecDepth 100000 in
theorem r_X8_isBeyond {l : Launch} {E : EV} {a : Nat → Nat} {o : Nat} {c_seed : Int32} {c_is c_sightOne c_sightOther : Nat → Int32} {c_sights : Int32} {c_pad : Nat → Int32} {c_padMany : Int32} {c_act c_which c_key c_other : Nat → Int32} {c_acts : Int32} {c_order : Nat → Int32} {c_digest : Nat → Int64} {c_tall c_had : Nat → Int32} {c_badAct c_badWhy c_alikeAct c_alikeTwo c_work c_isWorked : Int32} {c_trees : Nat → Int64} {c_from c_upTo : Nat → Int32} {c_shape : Nat → Int64} {c_kept c_isKept : Nat → Int32} {c_keptAt c_isWriting : Int32} {l1 : Int32} {l2 : Int32} {R : Int32} (h : f_X8_isBeyond c_is l1 l2 = some R) : Ret1 l E yX8_isBeyond cX8_isBeyond 6 (some .boolean) 1 (wX8 E a o c_seed c_is c_sightOne c_sightOther c_sights c_pad c_padMany c_act c_which c_key c_other c_acts c_order c_digest c_tall c_had c_badAct c_badWhy c_alikeAct c_alikeTwo c_work c_isWorked c_trees c_from c_upTo c_shape c_kept c_isKept c_keptAt c_isWriting) [.ref (a o), .int l1, .int l2] (some (.int R)) (wX8 E a o c_seed c_is c_sightOne c_sightOther c_sights c_pad c_padMany c_act c_which c_key c_other c_acts c_order c_digest c_tall c_had c_badAct c_badWhy c_alikeAct c_alikeTwo c_work c_isWorked c_trees c_from c_upTo c_shape c_kept c_isKept c_keptAt c_isWriting) := by
  refine Ret.intro (lv := [(0, .ref (a o)), (1, .int l1), (2, .int l2)]) (by decide) (Nat.le_of_ble_eq_true rfl) rfl ?_
  intro g hgl G hQ
  subst hgl
  rw [f_X8_isBeyond] at h
  refine w_bipush (pc2 := 2) G dX8_isBeyond_0 k_bipush_m6 rfl ?_
  refine w_istore_n (pc2 := 3) (lv2 := [(3, .int (-6 : Int32)), (0, .ref (a o)), (1, .int l1), (2, .int l2)]) G dX8_isBeyond_2 rfl (Nat.le_of_ble_eq_true rfl) rfl rfl ?_
  refine w_iconst (pc2 := 4) G dX8_isBeyond_3 k_iconst_0 rfl ?_
  refine w_istore (pc2 := 6) (lv2 := [(4, .int (0 : Int32)), (3, .int (-6 : Int32)), (0, .ref (a o)), (1, .int l1), (2, .int l2)]) G dX8_isBeyond_4 (Nat.le_of_ble_eq_true rfl) rfl rfl ?_
  obtain ⟨x1, h0, h⟩ := bs h
  have K_x1 : WW g E 6 0 0 (wX8 E a o c_seed c_is c_sightOne c_sightOther c_sights c_pad c_padMany c_act c_which c_key c_other c_acts c_order c_digest c_tall c_had c_badAct c_badWhy c_alikeAct c_alikeTwo c_work c_isWorked c_trees c_from c_upTo c_shape c_kept c_isKept c_keptAt c_isWriting) [(0, .ref (a o)), (2, .int l2), (3, .int x1)] 36 [] := by
    clear h0
    refine w_iconst (pc2 := 37) G dX8_isBeyond_36 k_iconst_1 rfl ?_
    refine w_istore (pc2 := 39) (lv2 := [(4, .int (1 : Int32)), (0, .ref (a o)), (2, .int l2), (3, .int x1)]) G dX8_isBeyond_37 (Nat.le_of_ble_eq_true rfl) rfl rfl ?_
    refine w_iconst (pc2 := 40) G dX8_isBeyond_39 k_iconst_0 rfl ?_
    refine w_istore (pc2 := 42) (lv2 := [(5, .int (0 : Int32)), (4, .int (1 : Int32)), (0, .ref (a o)), (2, .int l2), (3, .int x1)]) G dX8_isBeyond_40 (Nat.le_of_ble_eq_true rfl) rfl rfl ?_
    obtain ⟨x2, h0, h⟩ := bs h
    have K_x2 : WW g E 6 0 0 (wX8 E a o c_seed c_is c_sightOne c_sightOther c_sights c_pad c_padMany c_act c_which c_key c_other c_acts c_order c_digest c_tall c_had c_badAct c_badWhy c_alikeAct c_alikeTwo c_work c_isWorked c_trees c_from c_upTo c_shape c_kept c_isKept c_keptAt c_isWriting) [(4, .int x2)] 83 [] := by
      clear h0
      refine w_iload (pc2 := 85) G 0 rfl dX8_isBeyond_83 rfl ?_
      obtain ⟨v3, H_v3, h⟩ := bs h
      cases h
      exact w_zret G hQ rfl (bz_some H_v3) ⟨rfl, rfl⟩ dX8_isBeyond_85
    exact w_lv [2, 3, 4, 1, 0] rfl (lp_X8_isBeyond_42 G 20000 _ _ _ _ _ _ h0 (w_lv [0] rfl K_x2))
  exact w_lv [2, 3, 4, 1, 0] rfl (lp_X8_isBeyond_6 G 20000 _ _ _ _ _ h0 (w_lv [0, 1, 2] rfl K_x1))

set_option maxHeartbeats 4000000 in
set_option maxRecDepth 100000 in
theorem r_X8_whyNoKey {l : Launch} {E : EV} {a : Nat → Nat} {o : Nat} {c_seed : Int32} {c_is c_sightOne c_sightOther : Nat → Int32} {c_sights : Int32} {c_pad : Nat → Int32} {c_padMany : Int32} {c_act c_which c_key c_other : Nat → Int32} {c_acts : Int32} {c_order : Nat → Int32} {c_digest : Nat → Int64} {c_tall c_had : Nat → Int32} {c_badAct c_badWhy c_alikeAct c_alikeTwo c_work c_isWorked : Int32} {c_trees : Nat → Int64} {c_from c_upTo : Nat → Int32} {c_shape : Nat → Int64} {c_kept c_isKept : Nat → Int32} {c_keptAt c_isWriting : Int32} {l1 : Int32} {l2 : Int32} {l3 : Int32} {R : Int32} (h : f_X8_whyNoKey c_is l1 l2 l3 = some R) : Ret1 l E yX8_whyNoKey cX8_whyNoKey 4 (some .int) 1 (wX8 E a o c_seed c_is c_sightOne c_sightOther c_sights c_pad c_padMany c_act c_which c_key c_other c_acts c_order c_digest c_tall c_had c_badAct c_badWhy c_alikeAct c_alikeTwo c_work c_isWorked c_trees c_from c_upTo c_shape c_kept c_isKept c_keptAt c_isWriting) [.ref (a o), .int l1, .int l2, .int l3] (some (.int R)) (wX8 E a o c_seed c_is c_sightOne c_sightOther c_sights c_pad c_padMany c_act c_which c_key c_other c_acts c_order c_digest c_tall c_had c_badAct c_badWhy c_alikeAct c_alikeTwo c_work c_isWorked c_trees c_from c_upTo c_shape c_kept c_isKept c_keptAt c_isWriting) := by
  refine Ret.intro (lv := [(0, .ref (a o)), (1, .int l1), (2, .int l2), (3, .int l3)]) (by decide) (Nat.le_of_ble_eq_true rfl) rfl ?_
  intro g hgl G hQ
  subst hgl
  rw [f_X8_whyNoKey] at h
  refine w_aload_n (pc2 := 1) G 0 rfl dX8_whyNoKey_0 rfl rfl ?_
  refine w_iload_n (pc2 := 2) G 2 rfl dX8_whyNoKey_1 rfl rfl ?_
  refine w_iload_n (pc2 := 3) G 3 rfl dX8_whyNoKey_2 rfl rfl ?_
  obtain ⟨x1, H_x1, h⟩ := bs h
  refine w_cV0 (pc2 := 6) (ws2 := (wX8 E a o c_seed c_is c_sightOne c_sightOther c_sights c_pad c_padMany c_act c_which c_key c_other c_acts c_order c_digest c_tall c_had c_badAct c_badWhy c_alikeAct c_alikeTwo c_work c_isWorked c_trees c_from c_upTo c_shape c_kept c_isKept c_keptAt c_isWriting)) (As := [.int l2, .int l3]) (rest := []) G koX8_95 (r_X8_has H_x1) (Nat.le_of_ble_eq_true rfl) 8 rfl rfl rfl rfl (Nat.le_of_ble_eq_true rfl) ⟨Nat.zero_le _, Nat.zero_le _⟩ dX8_whyNoKey_3 rfl rfl ?_
  refine w_iload_n (pc2 := 7) G 1 rfl dX8_whyNoKey_6 rfl rfl ?_
  refine w_iconst (pc2 := 8) G dX8_whyNoKey_7 k_iconst_1 rfl ?_
  obtain ⟨x2, h0, h⟩ := bs h
  have K_x2 : WW g E 4 0 0 (wX8 E a o c_seed c_is c_sightOne c_sightOther c_sights c_pad c_padMany c_act c_which c_key c_other c_acts c_order c_digest c_tall c_had c_badAct c_badWhy c_alikeAct c_alikeTwo c_work c_isWorked c_trees c_from c_upTo c_shape c_kept c_isKept c_keptAt c_isWriting) [(0, .ref (a o)), (1, .int l1), (2, .int l2)] 16 [.int x2, .int x1] := by
    clear h0
    refine w_icmp_eq (tgt := 21) (pc2 := 19) G dX8_whyNoKey_16 (by decide) rfl (fun cc => ?_) (fun cc => ?_)
    · replace h := (if_pos cc).symm.trans h
      refine w_iload_n (pc2 := 22) G 1 rfl dX8_whyNoKey_21 rfl rfl ?_
      refine w_if_ne (tgt := 39) (pc2 := 25) G dX8_whyNoKey_22 (by decide) rfl (fun cc => ?_) (fun cc => ?_)
      · replace h := (if_neg cc).symm.trans h
        refine w_iconst (pc2 := 40) G dX8_whyNoKey_39 k_iconst_0 rfl ?_
        cases h
        exact w_iret G hQ rfl ⟨rfl, rfl⟩ dX8_whyNoKey_40
      · replace h := (if_pos cc).symm.trans h
        refine w_aload_n (pc2 := 26) G 0 rfl dX8_whyNoKey_25 rfl rfl ?_
        refine w_iload_n (pc2 := 27) G 2 rfl dX8_whyNoKey_26 rfl rfl ?_
        obtain ⟨x3, H_x3, h⟩ := bs h
        refine w_cV0 (pc2 := 30) (ws2 := (wX8 E a o c_seed c_is c_sightOne c_sightOther c_sights c_pad c_padMany c_act c_which c_key c_other c_acts c_order c_digest c_tall c_had c_badAct c_badWhy c_alikeAct c_alikeTwo c_work c_isWorked c_trees c_from c_upTo c_shape c_kept c_isKept c_keptAt c_isWriting)) (As := [.int l2]) (rest := []) G koX8_99 (r_X8_many H_x3) (Nat.le_of_ble_eq_true rfl) 8 rfl rfl rfl rfl (Nat.le_of_ble_eq_true rfl) ⟨Nat.zero_le _, Nat.zero_le _⟩ dX8_whyNoKey_27 rfl rfl ?_
        refine w_bipush (pc2 := 32) G dX8_whyNoKey_30 k_bipush_40 rfl ?_
        refine w_icmp_ne (tgt := 39) (pc2 := 35) G dX8_whyNoKey_32 (by decide) rfl (fun cc => ?_) (fun cc => ?_)
        · replace h := (if_neg cc).symm.trans h
          refine w_iconst (pc2 := 40) G dX8_whyNoKey_39 k_iconst_0 rfl ?_
          cases h
          exact w_iret G hQ rfl ⟨rfl, rfl⟩ dX8_whyNoKey_40
        · replace h := (if_pos cc).symm.trans h
          refine w_iconst (pc2 := 36) G dX8_whyNoKey_35 k_iconst_3 rfl ?_
          refine w_goto (tgt := 40) G dX8_whyNoKey_36 (by decide) ?_
          cases h
          exact w_iret G hQ rfl ⟨rfl, rfl⟩ dX8_whyNoKey_40
    · replace h := (if_neg cc).symm.trans h
      refine w_iconst (pc2 := 20) G dX8_whyNoKey_19 k_iconst_2 rfl ?_
      cases h
      exact w_iret G hQ rfl ⟨rfl, rfl⟩ dX8_whyNoKey_20
  replace h := h0
  clear h0
  refine w_icmp_ne (tgt := 15) (pc2 := 11) G dX8_whyNoKey_8 (by decide) rfl (fun cc => ?_) (fun cc => ?_)
  · replace h := (if_neg cc).symm.trans h
    refine w_iconst (pc2 := 16) G dX8_whyNoKey_15 k_iconst_0 rfl ?_
    cases h
    exact w_lv [0, 1, 2] rfl K_x2
  · replace h := (if_pos cc).symm.trans h
    refine w_iconst (pc2 := 12) G dX8_whyNoKey_11 k_iconst_1 rfl ?_
    refine w_goto (tgt := 16) G dX8_whyNoKey_12 (by decide) ?_
    cases h
    exact w_lv [0, 1, 2] rfl K_x2

set_option maxHeartbeats 4000000 in
set_option maxRecDepth 100000 in
theorem r_X8_whyNoJoin {l : Launch} {E : EV} {a : Nat → Nat} {o : Nat} {c_seed : Int32} {c_is c_sightOne c_sightOther : Nat → Int32} {c_sights : Int32} {c_pad : Nat → Int32} {c_padMany : Int32} {c_act c_which c_key c_other : Nat → Int32} {c_acts : Int32} {c_order : Nat → Int32} {c_digest : Nat → Int64} {c_tall c_had : Nat → Int32} {c_badAct c_badWhy c_alikeAct c_alikeTwo c_work c_isWorked : Int32} {c_trees : Nat → Int64} {c_from c_upTo : Nat → Int32} {c_shape : Nat → Int64} {c_kept c_isKept : Nat → Int32} {c_keptAt c_isWriting : Int32} {l1 : Int32} {l2 : Int32} {R : Int32} (h : f_X8_whyNoJoin c_is l1 l2 = some R) : Ret1 l E yX8_whyNoJoin cX8_whyNoJoin 3 (some .int) 2 (wX8 E a o c_seed c_is c_sightOne c_sightOther c_sights c_pad c_padMany c_act c_which c_key c_other c_acts c_order c_digest c_tall c_had c_badAct c_badWhy c_alikeAct c_alikeTwo c_work c_isWorked c_trees c_from c_upTo c_shape c_kept c_isKept c_keptAt c_isWriting) [.ref (a o), .int l1, .int l2] (some (.int R)) (wX8 E a o c_seed c_is c_sightOne c_sightOther c_sights c_pad c_padMany c_act c_which c_key c_other c_acts c_order c_digest c_tall c_had c_badAct c_badWhy c_alikeAct c_alikeTwo c_work c_isWorked c_trees c_from c_upTo c_shape c_kept c_isKept c_keptAt c_isWriting) := by
  refine Ret.intro (lv := [(0, .ref (a o)), (1, .int l1), (2, .int l2)]) (by decide) (Nat.le_of_ble_eq_true rfl) rfl ?_
  intro g hgl G hQ
  subst hgl
  rw [f_X8_whyNoJoin] at h
  refine w_aload_n (pc2 := 1) G 0 rfl dX8_whyNoJoin_0 rfl rfl ?_
  refine w_iload_n (pc2 := 2) G 1 rfl dX8_whyNoJoin_1 rfl rfl ?_
  obtain ⟨x1, H_x1, h⟩ := bs h
  refine w_cV0 (pc2 := 5) (ws2 := (wX8 E a o c_seed c_is c_sightOne c_sightOther c_sights c_pad c_padMany c_act c_which c_key c_other c_acts c_order c_digest c_tall c_had c_badAct c_badWhy c_alikeAct c_alikeTwo c_work c_isWorked c_trees c_from c_upTo c_shape c_kept c_isKept c_keptAt c_isWriting)) (As := [.int l1]) (rest := []) G koX8_99 (r_X8_many H_x1) (Nat.le_of_ble_eq_true rfl) 8 rfl rfl rfl rfl (Nat.le_of_ble_eq_true rfl) ⟨Nat.zero_le _, Nat.zero_le _⟩ dX8_whyNoJoin_2 rfl rfl ?_
  refine w_aload_n (pc2 := 6) G 0 rfl dX8_whyNoJoin_5 rfl rfl ?_
  refine w_iload_n (pc2 := 7) G 2 rfl dX8_whyNoJoin_6 rfl rfl ?_
  obtain ⟨x2, H_x2, h⟩ := bs h
  refine w_cV0 (pc2 := 10) (ws2 := (wX8 E a o c_seed c_is c_sightOne c_sightOther c_sights c_pad c_padMany c_act c_which c_key c_other c_acts c_order c_digest c_tall c_had c_badAct c_badWhy c_alikeAct c_alikeTwo c_work c_isWorked c_trees c_from c_upTo c_shape c_kept c_isKept c_keptAt c_isWriting)) (As := [.int l2]) (rest := [.int x1]) G koX8_99 (r_X8_many H_x2) (Nat.le_of_ble_eq_true rfl) 8 rfl rfl rfl rfl (Nat.le_of_ble_eq_true rfl) ⟨Nat.zero_le _, Nat.zero_le _⟩ dX8_whyNoJoin_7 rfl rfl ?_
  refine w_iadd (pc2 := 11) G dX8_whyNoJoin_10 rfl ?_
  refine w_bipush (pc2 := 13) G dX8_whyNoJoin_11 k_bipush_40 rfl ?_
  refine w_icmp_le (tgt := 31) (pc2 := 16) G dX8_whyNoJoin_13 (by decide) rfl (fun cc => ?_) (fun cc => ?_)
  · replace h := (if_pos cc).symm.trans h
    refine w_aload_n (pc2 := 32) G 0 rfl dX8_whyNoJoin_31 rfl rfl ?_
    refine w_iload_n (pc2 := 33) G 1 rfl dX8_whyNoJoin_32 rfl rfl ?_
    refine w_iload_n (pc2 := 34) G 2 rfl dX8_whyNoJoin_33 rfl rfl ?_
    obtain ⟨x3, H_x3, h⟩ := bs h
    refine w_cV0 (pc2 := 37) (ws2 := (wX8 E a o c_seed c_is c_sightOne c_sightOther c_sights c_pad c_padMany c_act c_which c_key c_other c_acts c_order c_digest c_tall c_had c_badAct c_badWhy c_alikeAct c_alikeTwo c_work c_isWorked c_trees c_from c_upTo c_shape c_kept c_isKept c_keptAt c_isWriting)) (As := [.int l1, .int l2]) (rest := []) G koX8_148 (r_X8_isBeyond H_x3) (Nat.le_of_ble_eq_true rfl) 8 rfl rfl rfl rfl (Nat.le_of_ble_eq_true rfl) ⟨Nat.zero_le _, Nat.zero_le _⟩ dX8_whyNoJoin_34 rfl rfl ?_
    refine w_if_eq (tgt := 44) (pc2 := 40) G dX8_whyNoJoin_37 (by decide) rfl (fun cc => ?_) (fun cc => ?_)
    · replace h := (if_pos cc).symm.trans h
      refine w_iconst (pc2 := 45) G dX8_whyNoJoin_44 k_iconst_5 rfl ?_
      cases h
      exact w_iret G hQ rfl ⟨rfl, rfl⟩ dX8_whyNoJoin_45
    · replace h := (if_neg cc).symm.trans h
      refine w_iconst (pc2 := 41) G dX8_whyNoJoin_40 k_iconst_0 rfl ?_
      refine w_goto (tgt := 45) G dX8_whyNoJoin_41 (by decide) ?_
      cases h
      exact w_iret G hQ rfl ⟨rfl, rfl⟩ dX8_whyNoJoin_45
  · replace h := (if_neg cc).symm.trans h
    refine w_aload_n (pc2 := 17) G 0 rfl dX8_whyNoJoin_16 rfl rfl ?_
    refine w_iload_n (pc2 := 18) G 1 rfl dX8_whyNoJoin_17 rfl rfl ?_
    refine w_iload_n (pc2 := 19) G 2 rfl dX8_whyNoJoin_18 rfl rfl ?_
    obtain ⟨x4, H_x4, h⟩ := bs h
    refine w_cV0 (pc2 := 22) (ws2 := (wX8 E a o c_seed c_is c_sightOne c_sightOther c_sights c_pad c_padMany c_act c_which c_key c_other c_acts c_order c_digest c_tall c_had c_badAct c_badWhy c_alikeAct c_alikeTwo c_work c_isWorked c_trees c_from c_upTo c_shape c_kept c_isKept c_keptAt c_isWriting)) (As := [.int l1, .int l2]) (rest := []) G koX8_145 (r_X8_ofBoth H_x4) (Nat.le_of_ble_eq_true rfl) 8 rfl rfl rfl rfl (Nat.le_of_ble_eq_true rfl) ⟨Nat.zero_le _, Nat.zero_le _⟩ dX8_whyNoJoin_19 rfl rfl ?_
    refine w_bipush (pc2 := 24) G dX8_whyNoJoin_22 k_bipush_40 rfl ?_
    refine w_icmp_le (tgt := 31) (pc2 := 27) G dX8_whyNoJoin_24 (by decide) rfl (fun cc => ?_) (fun cc => ?_)
    · replace h := (if_pos cc).symm.trans h
      refine w_aload_n (pc2 := 32) G 0 rfl dX8_whyNoJoin_31 rfl rfl ?_
      refine w_iload_n (pc2 := 33) G 1 rfl dX8_whyNoJoin_32 rfl rfl ?_
      refine w_iload_n (pc2 := 34) G 2 rfl dX8_whyNoJoin_33 rfl rfl ?_
      obtain ⟨x5, H_x5, h⟩ := bs h
      refine w_cV0 (pc2 := 37) (ws2 := (wX8 E a o c_seed c_is c_sightOne c_sightOther c_sights c_pad c_padMany c_act c_which c_key c_other c_acts c_order c_digest c_tall c_had c_badAct c_badWhy c_alikeAct c_alikeTwo c_work c_isWorked c_trees c_from c_upTo c_shape c_kept c_isKept c_keptAt c_isWriting)) (As := [.int l1, .int l2]) (rest := []) G koX8_148 (r_X8_isBeyond H_x5) (Nat.le_of_ble_eq_true rfl) 8 rfl rfl rfl rfl (Nat.le_of_ble_eq_true rfl) ⟨Nat.zero_le _, Nat.zero_le _⟩ dX8_whyNoJoin_34 rfl rfl ?_
      refine w_if_eq (tgt := 44) (pc2 := 40) G dX8_whyNoJoin_37 (by decide) rfl (fun cc => ?_) (fun cc => ?_)
      · replace h := (if_pos cc).symm.trans h
        refine w_iconst (pc2 := 45) G dX8_whyNoJoin_44 k_iconst_5 rfl ?_
        cases h
        exact w_iret G hQ rfl ⟨rfl, rfl⟩ dX8_whyNoJoin_45
      · replace h := (if_neg cc).symm.trans h
        refine w_iconst (pc2 := 41) G dX8_whyNoJoin_40 k_iconst_0 rfl ?_
        refine w_goto (tgt := 45) G dX8_whyNoJoin_41 (by decide) ?_
        cases h
        exact w_iret G hQ rfl ⟨rfl, rfl⟩ dX8_whyNoJoin_45
    · replace h := (if_neg cc).symm.trans h
      refine w_iconst (pc2 := 28) G dX8_whyNoJoin_27 k_iconst_3 rfl ?_
      refine w_goto (tgt := 45) G dX8_whyNoJoin_28 (by decide) ?_
      cases h
      exact w_iret G hQ rfl ⟨rfl, rfl⟩ dX8_whyNoJoin_45

set_option maxHeartbeats 4000000 in
set_option maxRecDepth 100000 in
theorem r_X8_whyNot {l : Launch} {E : EV} {a : Nat → Nat} {o : Nat} {c_seed : Int32} {c_is c_sightOne c_sightOther : Nat → Int32} {c_sights : Int32} {c_pad : Nat → Int32} {c_padMany : Int32} {c_act c_which c_key c_other : Nat → Int32} {c_acts : Int32} {c_order : Nat → Int32} {c_digest : Nat → Int64} {c_tall c_had : Nat → Int32} {c_badAct c_badWhy c_alikeAct c_alikeTwo c_work c_isWorked : Int32} {c_trees : Nat → Int64} {c_from c_upTo : Nat → Int32} {c_shape : Nat → Int64} {c_kept c_isKept : Nat → Int32} {c_keptAt c_isWriting : Int32} {l1 : Int32} {l2 : Int32} {l3 : Int32} {l4 : Int32} {R : Int32} (h : f_X8_whyNot c_seed c_is l1 l2 l3 l4 = some R) : Ret1 l E yX8_whyNot cX8_whyNot 5 (some .int) 3 (wX8 E a o c_seed c_is c_sightOne c_sightOther c_sights c_pad c_padMany c_act c_which c_key c_other c_acts c_order c_digest c_tall c_had c_badAct c_badWhy c_alikeAct c_alikeTwo c_work c_isWorked c_trees c_from c_upTo c_shape c_kept c_isKept c_keptAt c_isWriting) [.ref (a o), .int l1, .int l2, .int l3, .int l4] (some (.int R)) (wX8 E a o c_seed c_is c_sightOne c_sightOther c_sights c_pad c_padMany c_act c_which c_key c_other c_acts c_order c_digest c_tall c_had c_badAct c_badWhy c_alikeAct c_alikeTwo c_work c_isWorked c_trees c_from c_upTo c_shape c_kept c_isKept c_keptAt c_isWriting) := by
  refine Ret.intro (lv := [(0, .ref (a o)), (1, .int l1), (2, .int l2), (3, .int l3), (4, .int l4)]) (by decide) (Nat.le_of_ble_eq_true rfl) rfl ?_
  intro g hgl G hQ
  subst hgl
  rw [f_X8_whyNot] at h
  refine w_iload_n (pc2 := 1) G 1 rfl dX8_whyNot_0 rfl rfl ?_
  refine w_bipush (pc2 := 3) G dX8_whyNot_1 k_bipush_7 rfl ?_
  refine w_icmp_ne (tgt := 23) (pc2 := 6) G dX8_whyNot_3 (by decide) rfl (fun cc => ?_) (fun cc => ?_)
  · replace h := (if_neg cc).symm.trans h
    refine w_iload_n (pc2 := 24) G 1 rfl dX8_whyNot_23 rfl rfl ?_
    refine w_iconst (pc2 := 25) G dX8_whyNot_24 k_iconst_2 rfl ?_
    refine w_icmp_ge (tgt := 36) (pc2 := 28) G dX8_whyNot_25 (by decide) rfl (fun cc => ?_) (fun cc => ?_)
    · replace h := (if_pos cc).symm.trans h
      refine w_iload_n (pc2 := 37) G 2 rfl dX8_whyNot_36 rfl rfl ?_
      refine w_iload (pc2 := 39) G 4 rfl dX8_whyNot_37 rfl ?_
      refine w_icmp_ne (tgt := 44) (pc2 := 42) G dX8_whyNot_39 (by decide) rfl (fun cc => ?_) (fun cc => ?_)
      · replace h := (if_neg cc).symm.trans h
        refine w_iload_n (pc2 := 45) G 1 rfl dX8_whyNot_44 rfl rfl ?_
        by_cases sdX8_whyNot_45_0 : l1 = (2 : Int32)
        · replace h := (if_pos sdX8_whyNot_45_0).symm.trans h
          refine w_tabIn (tgt := 76) G sdX8_whyNot_45_0 dX8_whyNot_45 (by decide) (by decide) rfl (by decide) ?_
          refine w_aload_n (pc2 := 77) G 0 rfl dX8_whyNot_76 rfl rfl ?_
          refine w_iload (pc2 := 79) G 4 rfl dX8_whyNot_77 rfl ?_
          obtain ⟨x1, H_x1, h⟩ := bs h
          refine w_cV0 (pc2 := 82) (ws2 := (wX8 E a o c_seed c_is c_sightOne c_sightOther c_sights c_pad c_padMany c_act c_which c_key c_other c_acts c_order c_digest c_tall c_had c_badAct c_badWhy c_alikeAct c_alikeTwo c_work c_isWorked c_trees c_from c_upTo c_shape c_kept c_isKept c_keptAt c_isWriting)) (As := [.int l4]) (rest := []) G koX8_99 (r_X8_many H_x1) (Nat.le_of_ble_eq_true rfl) 8 rfl rfl rfl rfl (Nat.le_of_ble_eq_true rfl) ⟨Nat.zero_le _, Nat.zero_le _⟩ dX8_whyNot_79 rfl rfl ?_
          refine w_if_le (tgt := 89) (pc2 := 85) G dX8_whyNot_82 (by decide) rfl (fun cc => ?_) (fun cc => ?_)
          · replace h := (if_pos cc).symm.trans h
            refine w_iconst (pc2 := 90) G dX8_whyNot_89 k_iconst_0 rfl ?_
            cases h
            exact w_iret G hQ rfl ⟨rfl, rfl⟩ dX8_whyNot_90
          · replace h := (if_neg cc).symm.trans h
            refine w_iconst (pc2 := 86) G dX8_whyNot_85 k_iconst_4 rfl ?_
            refine w_goto (tgt := 90) G dX8_whyNot_86 (by decide) ?_
            cases h
            exact w_iret G hQ rfl ⟨rfl, rfl⟩ dX8_whyNot_90
        replace h := (if_neg sdX8_whyNot_45_0).symm.trans h
        by_cases sdX8_whyNot_45_1 : l1 = (3 : Int32)
        · replace h := (if_pos sdX8_whyNot_45_1).symm.trans h
          refine w_tabIn (tgt := 91) G sdX8_whyNot_45_1 dX8_whyNot_45 (by decide) (by decide) rfl (by decide) ?_
          refine w_aload_n (pc2 := 92) G 0 rfl dX8_whyNot_91 rfl rfl ?_
          refine w_iload_n (pc2 := 93) G 2 rfl dX8_whyNot_92 rfl rfl ?_
          refine w_iload (pc2 := 95) G 4 rfl dX8_whyNot_93 rfl ?_
          obtain ⟨x2, H_x2, h⟩ := bs h
          refine w_cV0 (pc2 := 98) (ws2 := (wX8 E a o c_seed c_is c_sightOne c_sightOther c_sights c_pad c_padMany c_act c_which c_key c_other c_acts c_order c_digest c_tall c_had c_badAct c_badWhy c_alikeAct c_alikeTwo c_work c_isWorked c_trees c_from c_upTo c_shape c_kept c_isKept c_keptAt c_isWriting)) (As := [.int l2, .int l4]) (rest := []) G koX8_155 (r_X8_whyNoJoin H_x2) (Nat.le_of_ble_eq_true rfl) 8 rfl rfl rfl rfl (Nat.le_of_ble_eq_true rfl) ⟨Nat.zero_le _, Nat.zero_le _⟩ dX8_whyNot_95 rfl rfl ?_
          cases h
          exact w_iret G hQ rfl ⟨rfl, rfl⟩ dX8_whyNot_98
        replace h := (if_neg sdX8_whyNot_45_1).symm.trans h
        by_cases sdX8_whyNot_45_2 : l1 = (4 : Int32)
        · replace h := (if_pos sdX8_whyNot_45_2).symm.trans h
          refine w_tabIn (tgt := 117) G sdX8_whyNot_45_2 dX8_whyNot_45 (by decide) (by decide) rfl (by decide) ?_
          refine w_iconst (pc2 := 118) G dX8_whyNot_117 k_iconst_0 rfl ?_
          cases h
          exact w_iret G hQ rfl ⟨rfl, rfl⟩ dX8_whyNot_118
        replace h := (if_neg sdX8_whyNot_45_2).symm.trans h
        by_cases sdX8_whyNot_45_3 : l1 = (5 : Int32)
        · replace h := (if_pos sdX8_whyNot_45_3).symm.trans h
          refine w_tabIn (tgt := 99) G sdX8_whyNot_45_3 dX8_whyNot_45 (by decide) (by decide) rfl (by decide) ?_
          refine w_aload_n (pc2 := 100) G 0 rfl dX8_whyNot_99 rfl rfl ?_
          refine w_iload_n (pc2 := 101) G 2 rfl dX8_whyNot_100 rfl rfl ?_
          refine w_iload (pc2 := 103) G 4 rfl dX8_whyNot_101 rfl ?_
          obtain ⟨x3, H_x3, h⟩ := bs h
          refine w_cV0 (pc2 := 106) (ws2 := (wX8 E a o c_seed c_is c_sightOne c_sightOther c_sights c_pad c_padMany c_act c_which c_key c_other c_acts c_order c_digest c_tall c_had c_badAct c_badWhy c_alikeAct c_alikeTwo c_work c_isWorked c_trees c_from c_upTo c_shape c_kept c_isKept c_keptAt c_isWriting)) (As := [.int l2, .int l4]) (rest := []) G koX8_145 (r_X8_ofBoth H_x3) (Nat.le_of_ble_eq_true rfl) 8 rfl rfl rfl rfl (Nat.le_of_ble_eq_true rfl) ⟨Nat.zero_le _, Nat.zero_le _⟩ dX8_whyNot_103 rfl rfl ?_
          refine w_bipush (pc2 := 108) G dX8_whyNot_106 k_bipush_40 rfl ?_
          refine w_icmp_le (tgt := 115) (pc2 := 111) G dX8_whyNot_108 (by decide) rfl (fun cc => ?_) (fun cc => ?_)
          · replace h := (if_pos cc).symm.trans h
            refine w_iconst (pc2 := 116) G dX8_whyNot_115 k_iconst_0 rfl ?_
            cases h
            exact w_iret G hQ rfl ⟨rfl, rfl⟩ dX8_whyNot_116
          · replace h := (if_neg cc).symm.trans h
            refine w_iconst (pc2 := 112) G dX8_whyNot_111 k_iconst_3 rfl ?_
            refine w_goto (tgt := 116) G dX8_whyNot_112 (by decide) ?_
            cases h
            exact w_iret G hQ rfl ⟨rfl, rfl⟩ dX8_whyNot_116
        replace h := (if_neg sdX8_whyNot_45_3).symm.trans h
        refine w_tabOut (tgt := 117) G dX8_whyNot_45 (by have e0 := ne_ti sdX8_whyNot_45_0; have e1 := ne_ti sdX8_whyNot_45_1; have e2 := ne_ti sdX8_whyNot_45_2; have e3 := ne_ti sdX8_whyNot_45_3; rw [show (2 : Int32).toInt = 2 from rfl] at e0; rw [show (3 : Int32).toInt = 3 from rfl] at e1; rw [show (4 : Int32).toInt = 4 from rfl] at e2; rw [show (5 : Int32).toInt = 5 from rfl] at e3; omega) (by decide) ?_
        refine w_iconst (pc2 := 118) G dX8_whyNot_117 k_iconst_0 rfl ?_
        cases h
        exact w_iret G hQ rfl ⟨rfl, rfl⟩ dX8_whyNot_118
      · replace h := (if_pos cc).symm.trans h
        refine w_iconst (pc2 := 43) G dX8_whyNot_42 k_iconst_1 rfl ?_
        cases h
        exact w_iret G hQ rfl ⟨rfl, rfl⟩ dX8_whyNot_43
    · replace h := (if_neg cc).symm.trans h
      refine w_aload_n (pc2 := 29) G 0 rfl dX8_whyNot_28 rfl rfl ?_
      refine w_iload_n (pc2 := 30) G 1 rfl dX8_whyNot_29 rfl rfl ?_
      refine w_iload_n (pc2 := 31) G 2 rfl dX8_whyNot_30 rfl rfl ?_
      refine w_iload_n (pc2 := 32) G 3 rfl dX8_whyNot_31 rfl rfl ?_
      obtain ⟨x4, H_x4, h⟩ := bs h
      refine w_cV0 (pc2 := 35) (ws2 := (wX8 E a o c_seed c_is c_sightOne c_sightOther c_sights c_pad c_padMany c_act c_which c_key c_other c_acts c_order c_digest c_tall c_had c_badAct c_badWhy c_alikeAct c_alikeTwo c_work c_isWorked c_trees c_from c_upTo c_shape c_kept c_isKept c_keptAt c_isWriting)) (As := [.int l1, .int l2, .int l3]) (rest := []) G koX8_151 (r_X8_whyNoKey H_x4) (Nat.le_of_ble_eq_true rfl) 8 rfl rfl rfl rfl (Nat.le_of_ble_eq_true rfl) ⟨Nat.zero_le _, Nat.zero_le _⟩ dX8_whyNot_32 rfl rfl ?_
      cases h
      exact w_iret G hQ rfl ⟨rfl, rfl⟩ dX8_whyNot_35
  · replace h := (if_pos cc).symm.trans h
    refine w_aload_n (pc2 := 7) G 0 rfl dX8_whyNot_6 rfl rfl ?_
    refine w_get (pc2 := 10) G foX8_78 0 rfl rfl dX8_whyNot_7 rfl ?_
    refine w_sipush (pc2 := 13) G dX8_whyNot_10 k_sipush_9999 rfl ?_
    refine w_icmp_ne (tgt := 21) (pc2 := 16) G dX8_whyNot_13 (by decide) rfl (fun cc => ?_) (fun cc => ?_)
    · replace h := (if_neg cc).symm.trans h
      refine w_iconst (pc2 := 22) G dX8_whyNot_21 k_iconst_0 rfl ?_
      cases h
      exact w_iret G hQ rfl ⟨rfl, rfl⟩ dX8_whyNot_22
    · replace h := (if_pos cc).symm.trans h
      refine w_bipush (pc2 := 18) G dX8_whyNot_16 k_bipush_6 rfl ?_
      refine w_goto (tgt := 22) G dX8_whyNot_18 (by decide) ?_
      cases h
      exact w_iret G hQ rfl ⟨rfl, rfl⟩ dX8_whyNot_22

set_option maxHeartbeats 4000000 in
set_option maxRecDepth 100000 in
theorem lp_X8_part_3 {g : CX} {E : EV} {a : Nat → Nat} {o : Nat} {c_seed : Int32} {c_sightOne c_sightOther : Nat → Int32} {c_sights : Int32} {c_pad : Nat → Int32} {c_padMany : Int32} {c_act c_which c_key c_other : Nat → Int32} {c_acts : Int32} {c_order : Nat → Int32} {c_digest : Nat → Int64} {c_tall c_had : Nat → Int32} {c_badAct c_badWhy c_alikeAct c_alikeTwo c_work c_isWorked : Int32} {c_trees : Nat → Int64} {c_from c_upTo : Nat → Int32} {c_shape : Nat → Int64} {c_kept c_isKept : Nat → Int32} {c_keptAt c_isWriting : Int32}  (G : GG g E RX8 cX8_part 5 none 0 0 0) : ∀ (n : Nat) (c_is : Nat → Int32) (l1 : Int32) (l3 : Int32) (l4 : Int32) (R : (Nat → Int32)), L_X8_part_3 n c_is l1 l3 l4 = some R → WW g E 5 0 0 (wX8 E a o c_seed R c_sightOne c_sightOther c_sights c_pad c_padMany c_act c_which c_key c_other c_acts c_order c_digest c_tall c_had c_badAct c_badWhy c_alikeAct c_alikeTwo c_work c_isWorked c_trees c_from c_upTo c_shape c_kept c_isKept c_keptAt c_isWriting) [] 53 [] → WW g E 5 0 0 (wX8 E a o c_seed c_is c_sightOne c_sightOther c_sights c_pad c_padMany c_act c_which c_key c_other c_acts c_order c_digest c_tall c_had c_badAct c_badWhy c_alikeAct c_alikeTwo c_work c_isWorked c_trees c_from c_upTo c_shape c_kept c_isKept c_keptAt c_isWriting) [(0, .ref (a o)), (1, .int l1), (3, .int l3), (4, .int l4)] 3 [] := by
  intro n
  induction n with
  | zero => intro c_is l1 l3 l4 R h; exact no_some h
  | succ n ih =>
    intro c_is l1 l3 l4 R h K
    rw [L_X8_part_3] at h
    refine w_iload (pc2 := 5) G 3 rfl dX8_part_3 rfl ?_
    refine w_bipush (pc2 := 7) G dX8_part_5 k_bipush_50 rfl ?_
    refine w_icmp_ge (tgt := 53) (pc2 := 10) G dX8_part_7 (by decide) rfl (fun cc => ?_) (fun cc => ?_)
    · replace h := (if_pos cc).symm.trans h
      cases h
      exact w_lv [] rfl K
    · replace h := (if_neg cc).symm.trans h
      refine w_aload_n (pc2 := 11) G 0 rfl dX8_part_10 rfl rfl ?_
      refine w_get (pc2 := 14) G foX8_7 0 rfl rfl dX8_part_11 rfl ?_
      refine w_bipush (pc2 := 16) G dX8_part_14 k_bipush_50 rfl ?_
      refine w_iload_n (pc2 := 17) G 2 rfl dX8_part_16 rfl rfl ?_
      refine w_imul (pc2 := 18) G dX8_part_17 rfl ?_
      refine w_iload (pc2 := 20) G 3 rfl dX8_part_18 rfl ?_
      refine w_iadd (pc2 := 21) G dX8_part_20 rfl ?_
      refine w_aload_n (pc2 := 22) G 0 rfl dX8_part_21 rfl rfl ?_
      refine w_get (pc2 := 25) G foX8_7 0 rfl rfl dX8_part_22 rfl ?_
      refine w_bipush (pc2 := 27) G dX8_part_25 k_bipush_50 rfl ?_
      refine w_iload_n (pc2 := 28) G 1 rfl dX8_part_27 rfl rfl ?_
      refine w_imul (pc2 := 29) G dX8_part_28 rfl ?_
      refine w_iload (pc2 := 31) G 3 rfl dX8_part_29 rfl ?_
      refine w_iadd (pc2 := 32) G dX8_part_31 rfl ?_
      obtain ⟨v1, H_v1, h⟩ := bs h
      refine w_ialdo (pc2 := 33) G 1 rfl H_v1 dX8_part_32 rfl ?_
      obtain ⟨f2, H_f2, h⟩ := bs h
      refine w_iasto (pc2 := 34) (ws2 := (wX8 E a o c_seed f2 c_sightOne c_sightOther c_sights c_pad c_padMany c_act c_which c_key c_other c_acts c_order c_digest c_tall c_had c_badAct c_badWhy c_alikeAct c_alikeTwo c_work c_isWorked c_trees c_from c_upTo c_shape c_kept c_isKept c_keptAt c_isWriting)) G 1 rfl H_f2 rfl dX8_part_33 rfl ?_
      refine w_aload_n (pc2 := 35) G 0 rfl dX8_part_34 rfl rfl ?_
      refine w_get (pc2 := 38) G foX8_7 0 rfl rfl dX8_part_35 rfl ?_
      refine w_bipush (pc2 := 40) G dX8_part_38 k_bipush_50 rfl ?_
      refine w_iload_n (pc2 := 41) G 1 rfl dX8_part_40 rfl rfl ?_
      refine w_imul (pc2 := 42) G dX8_part_41 rfl ?_
      refine w_iload (pc2 := 44) G 3 rfl dX8_part_42 rfl ?_
      refine w_iadd (pc2 := 45) G dX8_part_44 rfl ?_
      refine w_iconst (pc2 := 46) G dX8_part_45 k_iconst_0 rfl ?_
      obtain ⟨f3, H_f3, h⟩ := bs h
      refine w_iasto (pc2 := 47) (ws2 := (wX8 E a o c_seed f3 c_sightOne c_sightOther c_sights c_pad c_padMany c_act c_which c_key c_other c_acts c_order c_digest c_tall c_had c_badAct c_badWhy c_alikeAct c_alikeTwo c_work c_isWorked c_trees c_from c_upTo c_shape c_kept c_isKept c_keptAt c_isWriting)) G 1 rfl H_f3 rfl dX8_part_46 rfl ?_
      refine w_iinc (pc2 := 50) (lv2 := [(4, .int (l4 + (1 : Int32))), (0, .ref (a o)), (1, .int l1), (3, .int l3)]) G 3 rfl dX8_part_47 k_iconst_1 (Nat.le_of_ble_eq_true rfl) rfl rfl ?_
      refine w_goto (tgt := 3) G dX8_part_50 (by decide) ?_
      exact w_lv [1, 2, 3, 0] rfl (ih _ _ _ _ _ h K)
set_option maxHeartbeats 4000000 in
set_option maxRecDepth 100000 in
theorem r_X8_part {l : Launch} {E : EV} {a : Nat → Nat} {o : Nat} {c_seed : Int32} {c_is c_sightOne c_sightOther : Nat → Int32} {c_sights : Int32} {c_pad : Nat → Int32} {c_padMany : Int32} {c_act c_which c_key c_other : Nat → Int32} {c_acts : Int32} {c_order : Nat → Int32} {c_digest : Nat → Int64} {c_tall c_had : Nat → Int32} {c_badAct c_badWhy c_alikeAct c_alikeTwo c_work c_isWorked : Int32} {c_trees : Nat → Int64} {c_from c_upTo : Nat → Int32} {c_shape : Nat → Int64} {c_kept c_isKept : Nat → Int32} {c_keptAt c_isWriting : Int32} {l1 : Int32} {l2 : Int32} {l3 : Int32} {R : (Nat → Int32)} (h : f_X8_part c_is l1 l2 l3 = some R) : Ret1 l E yX8_part cX8_part 5 none 0 (wX8 E a o c_seed c_is c_sightOne c_sightOther c_sights c_pad c_padMany c_act c_which c_key c_other c_acts c_order c_digest c_tall c_had c_badAct c_badWhy c_alikeAct c_alikeTwo c_work c_isWorked c_trees c_from c_upTo c_shape c_kept c_isKept c_keptAt c_isWriting) [.ref (a o), .int l1, .int l2, .int l3] none (wX8 E a o c_seed R c_sightOne c_sightOther c_sights c_pad c_padMany c_act c_which c_key c_other c_acts c_order c_digest c_tall c_had c_badAct c_badWhy c_alikeAct c_alikeTwo c_work c_isWorked c_trees c_from c_upTo c_shape c_kept c_isKept c_keptAt c_isWriting) := by
  refine Ret.intro (lv := [(0, .ref (a o)), (1, .int l1), (2, .int l2), (3, .int l3)]) (by decide) (Nat.le_of_ble_eq_true rfl) rfl ?_
  intro g hgl G hQ
  subst hgl
  rw [f_X8_part] at h
  refine w_iload_n (pc2 := 1) G 2 rfl dX8_part_0 rfl rfl ?_
  refine w_istore (pc2 := 3) (lv2 := [(4, .int l2), (0, .ref (a o)), (1, .int l1), (2, .int l2), (3, .int l3)]) G dX8_part_1 (Nat.le_of_ble_eq_true rfl) rfl rfl ?_
  obtain ⟨x1, h0, h⟩ := bs h
  have K_x1 : WW g E 5 0 0 (wX8 E a o c_seed x1 c_sightOne c_sightOther c_sights c_pad c_padMany c_act c_which c_key c_other c_acts c_order c_digest c_tall c_had c_badAct c_badWhy c_alikeAct c_alikeTwo c_work c_isWorked c_trees c_from c_upTo c_shape c_kept c_isKept c_keptAt c_isWriting) [] 53 [] := by
    clear h0
    cases h
    exact w_vret G hQ rfl ⟨rfl, rfl⟩ dX8_part_53
  exact w_lv [1, 2, 4, 0] rfl (lp_X8_part_3 G 20000 _ _ _ _ _ h0 (w_lv [] rfl K_x1))

set_option maxHeartbeats 4000000 in
set_option maxRecDepth 100000 in
theorem r_X8_by {l : Launch} {E : EV} {a : Nat → Nat} {o : Nat} {c_seed : Int32} {c_is c_sightOne c_sightOther : Nat → Int32} {c_sights : Int32} {c_pad : Nat → Int32} {c_padMany : Int32} {c_act c_which c_key c_other : Nat → Int32} {c_acts : Int32} {c_order : Nat → Int32} {c_digest : Nat → Int64} {c_tall c_had : Nat → Int32} {c_badAct c_badWhy c_alikeAct c_alikeTwo c_work c_isWorked : Int32} {c_trees : Nat → Int64} {c_from c_upTo : Nat → Int32} {c_shape : Nat → Int64} {c_kept c_isKept : Nat → Int32} {c_keptAt c_isWriting : Int32} {l1 : Int32} {l2 : Int32} {l3 : Int32} {R : Int32} (h : f_X8_by l1 l2 l3 = some R) : Ret1 l E yX8_by cX8_by 4 (some .int) 0 (wX8 E a o c_seed c_is c_sightOne c_sightOther c_sights c_pad c_padMany c_act c_which c_key c_other c_acts c_order c_digest c_tall c_had c_badAct c_badWhy c_alikeAct c_alikeTwo c_work c_isWorked c_trees c_from c_upTo c_shape c_kept c_isKept c_keptAt c_isWriting) [.ref (a o), .int l1, .int l2, .int l3] (some (.int R)) (wX8 E a o c_seed c_is c_sightOne c_sightOther c_sights c_pad c_padMany c_act c_which c_key c_other c_acts c_order c_digest c_tall c_had c_badAct c_badWhy c_alikeAct c_alikeTwo c_work c_isWorked c_trees c_from c_upTo c_shape c_kept c_isKept c_keptAt c_isWriting) := by
  refine Ret.intro (lv := [(0, .ref (a o)), (1, .int l1), (2, .int l2), (3, .int l3)]) (by decide) (Nat.le_of_ble_eq_true rfl) rfl ?_
  intro g hgl G hQ
  subst hgl
  rw [f_X8_by] at h
  refine w_iload_n (pc2 := 1) G 1 rfl dX8_by_0 rfl rfl ?_
  by_cases sdX8_by_1_0 : l1 = (4 : Int32)
  · replace h := (if_pos sdX8_by_1_0).symm.trans h
    refine w_look (tgt := 28) G dX8_by_1 (by decide) (by rw [sdX8_by_1_0] <;> rfl) (by decide) ?_
    refine w_iload_n (pc2 := 29) G 3 rfl dX8_by_28 rfl rfl ?_
    cases h
    exact w_iret G hQ rfl ⟨rfl, rfl⟩ dX8_by_29
  replace h := (if_neg sdX8_by_1_0).symm.trans h
  by_cases sdX8_by_1_1 : l1 = (6 : Int32)
  · replace h := (if_pos sdX8_by_1_1).symm.trans h
    refine w_look (tgt := 30) G dX8_by_1 (by decide) (by rw [sdX8_by_1_1] <;> rfl) (by decide) ?_
    refine w_iload_n (pc2 := 31) G 3 rfl dX8_by_30 rfl rfl ?_
    refine w_iconst (pc2 := 32) G dX8_by_31 k_iconst_1 rfl ?_
    refine w_icmp_ne (tgt := 39) (pc2 := 35) G dX8_by_32 (by decide) rfl (fun cc => ?_) (fun cc => ?_)
    · replace h := (if_neg cc).symm.trans h
      refine w_iload_n (pc2 := 40) G 2 rfl dX8_by_39 rfl rfl ?_
      cases h
      exact w_iret G hQ rfl ⟨rfl, rfl⟩ dX8_by_40
    · replace h := (if_pos cc).symm.trans h
      refine w_iconst (pc2 := 36) G dX8_by_35 k_iconst_0 rfl ?_
      refine w_goto (tgt := 40) G dX8_by_36 (by decide) ?_
      cases h
      exact w_iret G hQ rfl ⟨rfl, rfl⟩ dX8_by_40
  replace h := (if_neg sdX8_by_1_1).symm.trans h
  refine w_look (tgt := 41) G dX8_by_1 (by decide) (look_out (by have e0 := ne_ti sdX8_by_1_0; have e1 := ne_ti sdX8_by_1_1; simp only [List.all_cons, List.all_nil, Bool.and_true, Bool.and_eq_true, decide_eq_true_eq]; exact ⟨e0, e1⟩)) (by decide) ?_
  refine w_iload_n (pc2 := 42) G 3 rfl dX8_by_41 rfl rfl ?_
  refine w_iconst (pc2 := 43) G dX8_by_42 k_iconst_1 rfl ?_
  refine w_icmp_ne (tgt := 50) (pc2 := 46) G dX8_by_43 (by decide) rfl (fun cc => ?_) (fun cc => ?_)
  · replace h := (if_neg cc).symm.trans h
    refine w_iload_n (pc2 := 51) G 2 rfl dX8_by_50 rfl rfl ?_
    cases h
    exact w_iret G hQ rfl ⟨rfl, rfl⟩ dX8_by_51
  · replace h := (if_pos cc).symm.trans h
    refine w_iconst (pc2 := 47) G dX8_by_46 k_iconst_1 rfl ?_
    refine w_goto (tgt := 51) G dX8_by_47 (by decide) ?_
    cases h
    exact w_iret G hQ rfl ⟨rfl, rfl⟩ dX8_by_51

set_option maxHeartbeats 4000000 in
set_option maxRecDepth 100000 in
theorem lp_X8_both_3 {g : CX} {E : EV} {a : Nat → Nat} {o : Nat} {c_seed : Int32} {c_sightOne c_sightOther : Nat → Int32} {c_sights : Int32} {c_pad : Nat → Int32} {c_padMany : Int32} {c_act c_which c_key c_other : Nat → Int32} {c_acts : Int32} {c_order : Nat → Int32} {c_digest : Nat → Int64} {c_tall c_had : Nat → Int32} {c_badAct c_badWhy c_alikeAct c_alikeTwo c_work c_isWorked : Int32} {c_trees : Nat → Int64} {c_from c_upTo : Nat → Int32} {c_shape : Nat → Int64} {c_kept c_isKept : Nat → Int32} {c_keptAt c_isWriting : Int32}  (G : GG g E RX8 cX8_both 5 none 1 0 0) : ∀ (n : Nat) (c_is : Nat → Int32) (l1 : Int32) (l2 : Int32) (l3 : Int32) (l4 : Int32) (R : (Nat → Int32)), L_X8_both_3 n c_is l1 l2 l3 l4 = some R → WW g E 5 0 0 (wX8 E a o c_seed R c_sightOne c_sightOther c_sights c_pad c_padMany c_act c_which c_key c_other c_acts c_order c_digest c_tall c_had c_badAct c_badWhy c_alikeAct c_alikeTwo c_work c_isWorked c_trees c_from c_upTo c_shape c_kept c_isKept c_keptAt c_isWriting) [] 90 [] → WW g E 5 0 0 (wX8 E a o c_seed c_is c_sightOne c_sightOther c_sights c_pad c_padMany c_act c_which c_key c_other c_acts c_order c_digest c_tall c_had c_badAct c_badWhy c_alikeAct c_alikeTwo c_work c_isWorked c_trees c_from c_upTo c_shape c_kept c_isKept c_keptAt c_isWriting) [(0, .ref (a o)), (1, .int l1), (2, .int l2), (3, .int l3), (4, .int l4)] 3 [] := by
  intro n
  induction n with
  | zero => intro c_is l1 l2 l3 l4 R h; exact no_some h
  | succ n ih =>
    intro c_is l1 l2 l3 l4 R h K
    rw [L_X8_both_3] at h
    refine w_iload (pc2 := 5) G 4 rfl dX8_both_3 rfl ?_
    refine w_bipush (pc2 := 7) G dX8_both_5 k_bipush_50 rfl ?_
    refine w_icmp_ge (tgt := 90) (pc2 := 10) G dX8_both_7 (by decide) rfl (fun cc => ?_) (fun cc => ?_)
    · replace h := (if_pos cc).symm.trans h
      cases h
      exact w_lv [] rfl K
    · replace h := (if_neg cc).symm.trans h
      refine w_aload_n (pc2 := 11) G 0 rfl dX8_both_10 rfl rfl ?_
      refine w_get (pc2 := 14) G foX8_7 0 rfl rfl dX8_both_11 rfl ?_
      refine w_bipush (pc2 := 16) G dX8_both_14 k_bipush_50 rfl ?_
      refine w_iload_n (pc2 := 17) G 2 rfl dX8_both_16 rfl rfl ?_
      refine w_imul (pc2 := 18) G dX8_both_17 rfl ?_
      refine w_iload (pc2 := 20) G 4 rfl dX8_both_18 rfl ?_
      refine w_iadd (pc2 := 21) G dX8_both_20 rfl ?_
      refine w_aload_n (pc2 := 22) G 0 rfl dX8_both_21 rfl rfl ?_
      refine w_iload_n (pc2 := 23) G 1 rfl dX8_both_22 rfl rfl ?_
      refine w_aload_n (pc2 := 24) G 0 rfl dX8_both_23 rfl rfl ?_
      refine w_get (pc2 := 27) G foX8_7 0 rfl rfl dX8_both_24 rfl ?_
      refine w_bipush (pc2 := 29) G dX8_both_27 k_bipush_50 rfl ?_
      refine w_iload_n (pc2 := 30) G 2 rfl dX8_both_29 rfl rfl ?_
      refine w_imul (pc2 := 31) G dX8_both_30 rfl ?_
      refine w_iload (pc2 := 33) G 4 rfl dX8_both_31 rfl ?_
      refine w_iadd (pc2 := 34) G dX8_both_33 rfl ?_
      obtain ⟨v1, H_v1, h⟩ := bs h
      refine w_ialdo (pc2 := 35) G 1 rfl H_v1 dX8_both_34 rfl ?_
      refine w_aload_n (pc2 := 36) G 0 rfl dX8_both_35 rfl rfl ?_
      refine w_get (pc2 := 39) G foX8_7 0 rfl rfl dX8_both_36 rfl ?_
      refine w_bipush (pc2 := 41) G dX8_both_39 k_bipush_50 rfl ?_
      refine w_iload_n (pc2 := 42) G 3 rfl dX8_both_41 rfl rfl ?_
      refine w_imul (pc2 := 43) G dX8_both_42 rfl ?_
      refine w_iload (pc2 := 45) G 4 rfl dX8_both_43 rfl ?_
      refine w_iadd (pc2 := 46) G dX8_both_45 rfl ?_
      obtain ⟨v2, H_v2, h⟩ := bs h
      refine w_ialdo (pc2 := 47) G 1 rfl H_v2 dX8_both_46 rfl ?_
      obtain ⟨x3, H_x3, h⟩ := bs h
      refine w_cV0 (pc2 := 50) (ws2 := (wX8 E a o c_seed c_is c_sightOne c_sightOther c_sights c_pad c_padMany c_act c_which c_key c_other c_acts c_order c_digest c_tall c_had c_badAct c_badWhy c_alikeAct c_alikeTwo c_work c_isWorked c_trees c_from c_upTo c_shape c_kept c_isKept c_keptAt c_isWriting)) (As := [.int l1, .int v1, .int v2]) (rest := [.int (((50 : Int32) * l2) + l4), .ref (a (o + 1))]) G koX8_158 (r_X8_by H_x3) (Nat.le_of_ble_eq_true rfl) 8 rfl rfl rfl rfl (Nat.le_of_ble_eq_true rfl) ⟨Nat.zero_le _, Nat.zero_le _⟩ dX8_both_47 rfl rfl ?_
      obtain ⟨f4, H_f4, h⟩ := bs h
      refine w_iasto (pc2 := 51) (ws2 := (wX8 E a o c_seed f4 c_sightOne c_sightOther c_sights c_pad c_padMany c_act c_which c_key c_other c_acts c_order c_digest c_tall c_had c_badAct c_badWhy c_alikeAct c_alikeTwo c_work c_isWorked c_trees c_from c_upTo c_shape c_kept c_isKept c_keptAt c_isWriting)) G 1 rfl H_f4 rfl dX8_both_50 rfl ?_
      refine w_aload_n (pc2 := 52) G 0 rfl dX8_both_51 rfl rfl ?_
      refine w_get (pc2 := 55) G foX8_7 0 rfl rfl dX8_both_52 rfl ?_
      refine w_bipush (pc2 := 57) G dX8_both_55 k_bipush_50 rfl ?_
      refine w_iload_n (pc2 := 58) G 3 rfl dX8_both_57 rfl rfl ?_
      refine w_imul (pc2 := 59) G dX8_both_58 rfl ?_
      refine w_iload (pc2 := 61) G 4 rfl dX8_both_59 rfl ?_
      refine w_iadd (pc2 := 62) G dX8_both_61 rfl ?_
      refine w_iload_n (pc2 := 63) G 1 rfl dX8_both_62 rfl rfl ?_
      refine w_iconst (pc2 := 64) G dX8_both_63 k_iconst_3 rfl ?_
      refine w_icmp_ne (tgt := 71) (pc2 := 67) G dX8_both_64 (by decide) rfl (fun cc => ?_) (fun cc => ?_)
      · replace h := (if_neg cc).symm.trans h
        refine w_aload_n (pc2 := 72) G 0 rfl dX8_both_71 rfl rfl ?_
        refine w_get (pc2 := 75) G foX8_7 0 rfl rfl dX8_both_72 rfl ?_
        refine w_bipush (pc2 := 77) G dX8_both_75 k_bipush_50 rfl ?_
        refine w_iload_n (pc2 := 78) G 3 rfl dX8_both_77 rfl rfl ?_
        refine w_imul (pc2 := 79) G dX8_both_78 rfl ?_
        refine w_iload (pc2 := 81) G 4 rfl dX8_both_79 rfl ?_
        refine w_iadd (pc2 := 82) G dX8_both_81 rfl ?_
        obtain ⟨v5, H_v5, h⟩ := bs h
        refine w_ialdo (pc2 := 83) G 1 rfl H_v5 dX8_both_82 rfl ?_
        obtain ⟨f6, H_f6, h⟩ := bs h
        refine w_iasto (pc2 := 84) (ws2 := (wX8 E a o c_seed f6 c_sightOne c_sightOther c_sights c_pad c_padMany c_act c_which c_key c_other c_acts c_order c_digest c_tall c_had c_badAct c_badWhy c_alikeAct c_alikeTwo c_work c_isWorked c_trees c_from c_upTo c_shape c_kept c_isKept c_keptAt c_isWriting)) G 1 rfl H_f6 rfl dX8_both_83 rfl ?_
        refine w_iinc (pc2 := 87) (lv2 := [(4, .int (l4 + (1 : Int32))), (0, .ref (a o)), (1, .int l1), (2, .int l2), (3, .int l3)]) G 4 rfl dX8_both_84 k_iconst_1 (Nat.le_of_ble_eq_true rfl) rfl rfl ?_
        refine w_goto (tgt := 3) G dX8_both_87 (by decide) ?_
        exact w_lv [1, 2, 3, 4, 0] rfl (ih _ _ _ _ _ _ h K)
      · replace h := (if_pos cc).symm.trans h
        refine w_iconst (pc2 := 68) G dX8_both_67 k_iconst_0 rfl ?_
        refine w_goto (tgt := 83) G dX8_both_68 (by decide) ?_
        obtain ⟨f7, H_f7, h⟩ := bs h
        refine w_iasto (pc2 := 84) (ws2 := (wX8 E a o c_seed f7 c_sightOne c_sightOther c_sights c_pad c_padMany c_act c_which c_key c_other c_acts c_order c_digest c_tall c_had c_badAct c_badWhy c_alikeAct c_alikeTwo c_work c_isWorked c_trees c_from c_upTo c_shape c_kept c_isKept c_keptAt c_isWriting)) G 1 rfl H_f7 rfl dX8_both_83 rfl ?_
        refine w_iinc (pc2 := 87) (lv2 := [(4, .int (l4 + (1 : Int32))), (0, .ref (a o)), (1, .int l1), (2, .int l2), (3, .int l3)]) G 4 rfl dX8_both_84 k_iconst_1 (Nat.le_of_ble_eq_true rfl) rfl rfl ?_
        refine w_goto (tgt := 3) G dX8_both_87 (by decide) ?_
        exact w_lv [1, 2, 3, 4, 0] rfl (ih _ _ _ _ _ _ h K)
set_option maxHeartbeats 4000000 in
set_option maxRecDepth 100000 in
theorem r_X8_both {l : Launch} {E : EV} {a : Nat → Nat} {o : Nat} {c_seed : Int32} {c_is c_sightOne c_sightOther : Nat → Int32} {c_sights : Int32} {c_pad : Nat → Int32} {c_padMany : Int32} {c_act c_which c_key c_other : Nat → Int32} {c_acts : Int32} {c_order : Nat → Int32} {c_digest : Nat → Int64} {c_tall c_had : Nat → Int32} {c_badAct c_badWhy c_alikeAct c_alikeTwo c_work c_isWorked : Int32} {c_trees : Nat → Int64} {c_from c_upTo : Nat → Int32} {c_shape : Nat → Int64} {c_kept c_isKept : Nat → Int32} {c_keptAt c_isWriting : Int32} {l1 : Int32} {l2 : Int32} {l3 : Int32} {R : (Nat → Int32)} (h : f_X8_both c_is l1 l2 l3 = some R) : Ret1 l E yX8_both cX8_both 5 none 1 (wX8 E a o c_seed c_is c_sightOne c_sightOther c_sights c_pad c_padMany c_act c_which c_key c_other c_acts c_order c_digest c_tall c_had c_badAct c_badWhy c_alikeAct c_alikeTwo c_work c_isWorked c_trees c_from c_upTo c_shape c_kept c_isKept c_keptAt c_isWriting) [.ref (a o), .int l1, .int l2, .int l3] none (wX8 E a o c_seed R c_sightOne c_sightOther c_sights c_pad c_padMany c_act c_which c_key c_other c_acts c_order c_digest c_tall c_had c_badAct c_badWhy c_alikeAct c_alikeTwo c_work c_isWorked c_trees c_from c_upTo c_shape c_kept c_isKept c_keptAt c_isWriting) := by
  refine Ret.intro (lv := [(0, .ref (a o)), (1, .int l1), (2, .int l2), (3, .int l3)]) (by decide) (Nat.le_of_ble_eq_true rfl) rfl ?_
  intro g hgl G hQ
  subst hgl
  rw [f_X8_both] at h
  refine w_iconst (pc2 := 1) G dX8_both_0 k_iconst_0 rfl ?_
  refine w_istore (pc2 := 3) (lv2 := [(4, .int (0 : Int32)), (0, .ref (a o)), (1, .int l1), (2, .int l2), (3, .int l3)]) G dX8_both_1 (Nat.le_of_ble_eq_true rfl) rfl rfl ?_
  obtain ⟨x1, h0, h⟩ := bs h
  have K_x1 : WW g E 5 0 0 (wX8 E a o c_seed x1 c_sightOne c_sightOther c_sights c_pad c_padMany c_act c_which c_key c_other c_acts c_order c_digest c_tall c_had c_badAct c_badWhy c_alikeAct c_alikeTwo c_work c_isWorked c_trees c_from c_upTo c_shape c_kept c_isKept c_keptAt c_isWriting) [] 90 [] := by
    clear h0
    cases h
    exact w_vret G hQ rfl ⟨rfl, rfl⟩ dX8_both_90
  exact w_lv [1, 2, 3, 4, 0] rfl (lp_X8_both_3 G 20000 _ _ _ _ _ _ h0 (w_lv [] rfl K_x1))

set_option maxHeartbeats 4000000 in
set_option maxRecDepth 100000 in
theorem r_X8_happen {l : Launch} {E : EV} {a : Nat → Nat} {o : Nat} {c_seed : Int32} {c_is c_sightOne c_sightOther : Nat → Int32} {c_sights : Int32} {c_pad : Nat → Int32} {c_padMany : Int32} {c_act c_which c_key c_other : Nat → Int32} {c_acts : Int32} {c_order : Nat → Int32} {c_digest : Nat → Int64} {c_tall c_had : Nat → Int32} {c_badAct c_badWhy c_alikeAct c_alikeTwo c_work c_isWorked : Int32} {c_trees : Nat → Int64} {c_from c_upTo : Nat → Int32} {c_shape : Nat → Int64} {c_kept c_isKept : Nat → Int32} {c_keptAt c_isWriting : Int32} {l1 : Int32} {l2 : Int32} {l3 : Int32} {l4 : Int32} {R : Int32 × (Nat → Int32)} (h : f_X8_happen c_seed c_is l1 l2 l3 l4 = some R) : Ret1 l E yX8_happen cX8_happen 5 none 2 (wX8 E a o c_seed c_is c_sightOne c_sightOther c_sights c_pad c_padMany c_act c_which c_key c_other c_acts c_order c_digest c_tall c_had c_badAct c_badWhy c_alikeAct c_alikeTwo c_work c_isWorked c_trees c_from c_upTo c_shape c_kept c_isKept c_keptAt c_isWriting) [.ref (a o), .int l1, .int l2, .int l3, .int l4] none (wX8 E a o R.1 R.2 c_sightOne c_sightOther c_sights c_pad c_padMany c_act c_which c_key c_other c_acts c_order c_digest c_tall c_had c_badAct c_badWhy c_alikeAct c_alikeTwo c_work c_isWorked c_trees c_from c_upTo c_shape c_kept c_isKept c_keptAt c_isWriting) := by
  refine Ret.intro (lv := [(0, .ref (a o)), (1, .int l1), (2, .int l2), (3, .int l3), (4, .int l4)]) (by decide) (Nat.le_of_ble_eq_true rfl) rfl ?_
  intro g hgl G hQ
  subst hgl
  rw [f_X8_happen] at h
  refine w_iload_n (pc2 := 1) G 1 rfl dX8_happen_0 rfl rfl ?_
  by_cases sdX8_happen_1_0 : l1 = (0 : Int32)
  · replace h := (if_pos sdX8_happen_1_0).symm.trans h
    refine w_tabIn (tgt := 48) G sdX8_happen_1_0 dX8_happen_1 (by decide) (by decide) rfl (by decide) ?_
    refine w_aload_n (pc2 := 49) G 0 rfl dX8_happen_48 rfl rfl ?_
    refine w_get (pc2 := 52) G foX8_7 0 rfl rfl dX8_happen_49 rfl ?_
    refine w_bipush (pc2 := 54) G dX8_happen_52 k_bipush_50 rfl ?_
    refine w_iload_n (pc2 := 55) G 2 rfl dX8_happen_54 rfl rfl ?_
    refine w_imul (pc2 := 56) G dX8_happen_55 rfl ?_
    refine w_iload_n (pc2 := 57) G 3 rfl dX8_happen_56 rfl rfl ?_
    refine w_iadd (pc2 := 58) G dX8_happen_57 rfl ?_
    refine w_iconst (pc2 := 59) G dX8_happen_58 k_iconst_1 rfl ?_
    obtain ⟨f1, H_f1, h⟩ := bs h
    refine w_iasto (pc2 := 60) (ws2 := (wX8 E a o c_seed f1 c_sightOne c_sightOther c_sights c_pad c_padMany c_act c_which c_key c_other c_acts c_order c_digest c_tall c_had c_badAct c_badWhy c_alikeAct c_alikeTwo c_work c_isWorked c_trees c_from c_upTo c_shape c_kept c_isKept c_keptAt c_isWriting)) G 1 rfl H_f1 rfl dX8_happen_59 rfl ?_
    refine w_goto (tgt := 110) G dX8_happen_60 (by decide) ?_
    cases h
    exact w_vret G hQ rfl ⟨rfl, rfl⟩ dX8_happen_110
  replace h := (if_neg sdX8_happen_1_0).symm.trans h
  by_cases sdX8_happen_1_1 : l1 = (1 : Int32)
  · replace h := (if_pos sdX8_happen_1_1).symm.trans h
    refine w_tabIn (tgt := 63) G sdX8_happen_1_1 dX8_happen_1 (by decide) (by decide) rfl (by decide) ?_
    refine w_aload_n (pc2 := 64) G 0 rfl dX8_happen_63 rfl rfl ?_
    refine w_get (pc2 := 67) G foX8_7 0 rfl rfl dX8_happen_64 rfl ?_
    refine w_bipush (pc2 := 69) G dX8_happen_67 k_bipush_50 rfl ?_
    refine w_iload_n (pc2 := 70) G 2 rfl dX8_happen_69 rfl rfl ?_
    refine w_imul (pc2 := 71) G dX8_happen_70 rfl ?_
    refine w_iload_n (pc2 := 72) G 3 rfl dX8_happen_71 rfl rfl ?_
    refine w_iadd (pc2 := 73) G dX8_happen_72 rfl ?_
    refine w_iconst (pc2 := 74) G dX8_happen_73 k_iconst_0 rfl ?_
    obtain ⟨f2, H_f2, h⟩ := bs h
    refine w_iasto (pc2 := 75) (ws2 := (wX8 E a o c_seed f2 c_sightOne c_sightOther c_sights c_pad c_padMany c_act c_which c_key c_other c_acts c_order c_digest c_tall c_had c_badAct c_badWhy c_alikeAct c_alikeTwo c_work c_isWorked c_trees c_from c_upTo c_shape c_kept c_isKept c_keptAt c_isWriting)) G 1 rfl H_f2 rfl dX8_happen_74 rfl ?_
    refine w_goto (tgt := 110) G dX8_happen_75 (by decide) ?_
    cases h
    exact w_vret G hQ rfl ⟨rfl, rfl⟩ dX8_happen_110
  replace h := (if_neg sdX8_happen_1_1).symm.trans h
  by_cases sdX8_happen_1_2 : l1 = (2 : Int32)
  · replace h := (if_pos sdX8_happen_1_2).symm.trans h
    refine w_tabIn (tgt := 78) G sdX8_happen_1_2 dX8_happen_1 (by decide) (by decide) rfl (by decide) ?_
    refine w_aload_n (pc2 := 79) G 0 rfl dX8_happen_78 rfl rfl ?_
    refine w_iload_n (pc2 := 80) G 2 rfl dX8_happen_79 rfl rfl ?_
    refine w_iload_n (pc2 := 81) G 3 rfl dX8_happen_80 rfl rfl ?_
    refine w_iload (pc2 := 83) G 4 rfl dX8_happen_81 rfl ?_
    obtain ⟨x3, H_x3, h⟩ := bs h
    refine w_cV0 (pc2 := 86) (ws2 := (wX8 E a o c_seed x3 c_sightOne c_sightOther c_sights c_pad c_padMany c_act c_which c_key c_other c_acts c_order c_digest c_tall c_had c_badAct c_badWhy c_alikeAct c_alikeTwo c_work c_isWorked c_trees c_from c_upTo c_shape c_kept c_isKept c_keptAt c_isWriting)) (As := [.int l2, .int l3, .int l4]) (rest := []) G koX8_161 (r_X8_part H_x3) (Nat.le_of_ble_eq_true rfl) 8 rfl rfl rfl rfl (Nat.le_of_ble_eq_true rfl) ⟨Nat.zero_le _, Nat.zero_le _⟩ dX8_happen_83 rfl rfl ?_
    refine w_goto (tgt := 110) G dX8_happen_86 (by decide) ?_
    cases h
    exact w_vret G hQ rfl ⟨rfl, rfl⟩ dX8_happen_110
  replace h := (if_neg sdX8_happen_1_2).symm.trans h
  by_cases sdX8_happen_1_3 : l1 = (3 : Int32)
  · replace h := (if_pos sdX8_happen_1_3).symm.trans h
    refine w_tabIn (tgt := 102) G sdX8_happen_1_3 dX8_happen_1 (by decide) (by decide) rfl (by decide) ?_
    refine w_aload_n (pc2 := 103) G 0 rfl dX8_happen_102 rfl rfl ?_
    refine w_iload_n (pc2 := 104) G 1 rfl dX8_happen_103 rfl rfl ?_
    refine w_iload_n (pc2 := 105) G 2 rfl dX8_happen_104 rfl rfl ?_
    refine w_iload (pc2 := 107) G 4 rfl dX8_happen_105 rfl ?_
    obtain ⟨x4, H_x4, h⟩ := bs h
    refine w_cV0 (pc2 := 110) (ws2 := (wX8 E a o c_seed x4 c_sightOne c_sightOther c_sights c_pad c_padMany c_act c_which c_key c_other c_acts c_order c_digest c_tall c_had c_badAct c_badWhy c_alikeAct c_alikeTwo c_work c_isWorked c_trees c_from c_upTo c_shape c_kept c_isKept c_keptAt c_isWriting)) (As := [.int l1, .int l2, .int l4]) (rest := []) G koX8_165 (r_X8_both H_x4) (Nat.le_of_ble_eq_true rfl) 8 rfl rfl rfl rfl (Nat.le_of_ble_eq_true rfl) ⟨Nat.zero_le _, Nat.zero_le _⟩ dX8_happen_107 rfl rfl ?_
    cases h
    exact w_vret G hQ rfl ⟨rfl, rfl⟩ dX8_happen_110
  replace h := (if_neg sdX8_happen_1_3).symm.trans h
  by_cases sdX8_happen_1_4 : l1 = (4 : Int32)
  · replace h := (if_pos sdX8_happen_1_4).symm.trans h
    refine w_tabIn (tgt := 102) G sdX8_happen_1_4 dX8_happen_1 (by decide) (by decide) rfl (by decide) ?_
    refine w_aload_n (pc2 := 103) G 0 rfl dX8_happen_102 rfl rfl ?_
    refine w_iload_n (pc2 := 104) G 1 rfl dX8_happen_103 rfl rfl ?_
    refine w_iload_n (pc2 := 105) G 2 rfl dX8_happen_104 rfl rfl ?_
    refine w_iload (pc2 := 107) G 4 rfl dX8_happen_105 rfl ?_
    obtain ⟨x5, H_x5, h⟩ := bs h
    refine w_cV0 (pc2 := 110) (ws2 := (wX8 E a o c_seed x5 c_sightOne c_sightOther c_sights c_pad c_padMany c_act c_which c_key c_other c_acts c_order c_digest c_tall c_had c_badAct c_badWhy c_alikeAct c_alikeTwo c_work c_isWorked c_trees c_from c_upTo c_shape c_kept c_isKept c_keptAt c_isWriting)) (As := [.int l1, .int l2, .int l4]) (rest := []) G koX8_165 (r_X8_both H_x5) (Nat.le_of_ble_eq_true rfl) 8 rfl rfl rfl rfl (Nat.le_of_ble_eq_true rfl) ⟨Nat.zero_le _, Nat.zero_le _⟩ dX8_happen_107 rfl rfl ?_
    cases h
    exact w_vret G hQ rfl ⟨rfl, rfl⟩ dX8_happen_110
  replace h := (if_neg sdX8_happen_1_4).symm.trans h
  by_cases sdX8_happen_1_5 : l1 = (5 : Int32)
  · replace h := (if_pos sdX8_happen_1_5).symm.trans h
    refine w_tabIn (tgt := 102) G sdX8_happen_1_5 dX8_happen_1 (by decide) (by decide) rfl (by decide) ?_
    refine w_aload_n (pc2 := 103) G 0 rfl dX8_happen_102 rfl rfl ?_
    refine w_iload_n (pc2 := 104) G 1 rfl dX8_happen_103 rfl rfl ?_
    refine w_iload_n (pc2 := 105) G 2 rfl dX8_happen_104 rfl rfl ?_
    refine w_iload (pc2 := 107) G 4 rfl dX8_happen_105 rfl ?_
    obtain ⟨x6, H_x6, h⟩ := bs h
    refine w_cV0 (pc2 := 110) (ws2 := (wX8 E a o c_seed x6 c_sightOne c_sightOther c_sights c_pad c_padMany c_act c_which c_key c_other c_acts c_order c_digest c_tall c_had c_badAct c_badWhy c_alikeAct c_alikeTwo c_work c_isWorked c_trees c_from c_upTo c_shape c_kept c_isKept c_keptAt c_isWriting)) (As := [.int l1, .int l2, .int l4]) (rest := []) G koX8_165 (r_X8_both H_x6) (Nat.le_of_ble_eq_true rfl) 8 rfl rfl rfl rfl (Nat.le_of_ble_eq_true rfl) ⟨Nat.zero_le _, Nat.zero_le _⟩ dX8_happen_107 rfl rfl ?_
    cases h
    exact w_vret G hQ rfl ⟨rfl, rfl⟩ dX8_happen_110
  replace h := (if_neg sdX8_happen_1_5).symm.trans h
  by_cases sdX8_happen_1_6 : l1 = (6 : Int32)
  · replace h := (if_pos sdX8_happen_1_6).symm.trans h
    refine w_tabIn (tgt := 102) G sdX8_happen_1_6 dX8_happen_1 (by decide) (by decide) rfl (by decide) ?_
    refine w_aload_n (pc2 := 103) G 0 rfl dX8_happen_102 rfl rfl ?_
    refine w_iload_n (pc2 := 104) G 1 rfl dX8_happen_103 rfl rfl ?_
    refine w_iload_n (pc2 := 105) G 2 rfl dX8_happen_104 rfl rfl ?_
    refine w_iload (pc2 := 107) G 4 rfl dX8_happen_105 rfl ?_
    obtain ⟨x7, H_x7, h⟩ := bs h
    refine w_cV0 (pc2 := 110) (ws2 := (wX8 E a o c_seed x7 c_sightOne c_sightOther c_sights c_pad c_padMany c_act c_which c_key c_other c_acts c_order c_digest c_tall c_had c_badAct c_badWhy c_alikeAct c_alikeTwo c_work c_isWorked c_trees c_from c_upTo c_shape c_kept c_isKept c_keptAt c_isWriting)) (As := [.int l1, .int l2, .int l4]) (rest := []) G koX8_165 (r_X8_both H_x7) (Nat.le_of_ble_eq_true rfl) 8 rfl rfl rfl rfl (Nat.le_of_ble_eq_true rfl) ⟨Nat.zero_le _, Nat.zero_le _⟩ dX8_happen_107 rfl rfl ?_
    cases h
    exact w_vret G hQ rfl ⟨rfl, rfl⟩ dX8_happen_110
  replace h := (if_neg sdX8_happen_1_6).symm.trans h
  by_cases sdX8_happen_1_7 : l1 = (7 : Int32)
  · replace h := (if_pos sdX8_happen_1_7).symm.trans h
    refine w_tabIn (tgt := 89) G sdX8_happen_1_7 dX8_happen_1 (by decide) (by decide) rfl (by decide) ?_
    refine w_aload_n (pc2 := 90) G 0 rfl dX8_happen_89 rfl rfl ?_
    refine w_dup (pc2 := 91) G dX8_happen_90 rfl rfl ?_
    refine w_get (pc2 := 94) G foX8_78 0 rfl rfl dX8_happen_91 rfl ?_
    refine w_iconst (pc2 := 95) G dX8_happen_94 k_iconst_1 rfl ?_
    refine w_iadd (pc2 := 96) G dX8_happen_95 rfl ?_
    refine w_put (pc2 := 99) (ws2 := (wX8 E a o (c_seed + (1 : Int32)) c_is c_sightOne c_sightOther c_sights c_pad c_padMany c_act c_which c_key c_other c_acts c_order c_digest c_tall c_had c_badAct c_badWhy c_alikeAct c_alikeTwo c_work c_isWorked c_trees c_from c_upTo c_shape c_kept c_isKept c_keptAt c_isWriting)) G foX8_78 tokX8 0 rfl rfl rfl rfl (Nat.le_of_ble_eq_true rfl) rfl dX8_happen_96 rfl ?_
    refine w_goto (tgt := 110) G dX8_happen_99 (by decide) ?_
    cases h
    exact w_vret G hQ rfl ⟨rfl, rfl⟩ dX8_happen_110
  replace h := (if_neg sdX8_happen_1_7).symm.trans h
  refine w_tabOut (tgt := 102) G dX8_happen_1 (by have e0 := ne_ti sdX8_happen_1_0; have e1 := ne_ti sdX8_happen_1_1; have e2 := ne_ti sdX8_happen_1_2; have e3 := ne_ti sdX8_happen_1_3; have e4 := ne_ti sdX8_happen_1_4; have e5 := ne_ti sdX8_happen_1_5; have e6 := ne_ti sdX8_happen_1_6; have e7 := ne_ti sdX8_happen_1_7; rw [show (0 : Int32).toInt = 0 from rfl] at e0; rw [show (1 : Int32).toInt = 1 from rfl] at e1; rw [show (2 : Int32).toInt = 2 from rfl] at e2; rw [show (3 : Int32).toInt = 3 from rfl] at e3; rw [show (4 : Int32).toInt = 4 from rfl] at e4; rw [show (5 : Int32).toInt = 5 from rfl] at e5; rw [show (6 : Int32).toInt = 6 from rfl] at e6; rw [show (7 : Int32).toInt = 7 from rfl] at e7; omega) (by decide) ?_
  refine w_aload_n (pc2 := 103) G 0 rfl dX8_happen_102 rfl rfl ?_
  refine w_iload_n (pc2 := 104) G 1 rfl dX8_happen_103 rfl rfl ?_
  refine w_iload_n (pc2 := 105) G 2 rfl dX8_happen_104 rfl rfl ?_
  refine w_iload (pc2 := 107) G 4 rfl dX8_happen_105 rfl ?_
  obtain ⟨x8, H_x8, h⟩ := bs h
  refine w_cV0 (pc2 := 110) (ws2 := (wX8 E a o c_seed x8 c_sightOne c_sightOther c_sights c_pad c_padMany c_act c_which c_key c_other c_acts c_order c_digest c_tall c_had c_badAct c_badWhy c_alikeAct c_alikeTwo c_work c_isWorked c_trees c_from c_upTo c_shape c_kept c_isKept c_keptAt c_isWriting)) (As := [.int l1, .int l2, .int l4]) (rest := []) G koX8_165 (r_X8_both H_x8) (Nat.le_of_ble_eq_true rfl) 8 rfl rfl rfl rfl (Nat.le_of_ble_eq_true rfl) ⟨Nat.zero_le _, Nat.zero_le _⟩ dX8_happen_107 rfl rfl ?_
  cases h
  exact w_vret G hQ rfl ⟨rfl, rfl⟩ dX8_happen_110
