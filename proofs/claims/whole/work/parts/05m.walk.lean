set_option maxHeartbeats 4000000 in
set_option maxRecDepth 100000 in
theorem lp_X8_below_5 {g : CX} {E : EV} {a : Nat → Nat} {o : Nat} {c_sightOne c_sightOther : Nat → Int32} {c_sights : Int32} {c_pad : Nat → Int32} {c_padMany : Int32} {c_act c_which c_key c_other : Nat → Int32} {c_acts : Int32} {c_order : Nat → Int32} {c_digest : Nat → Int64} {c_tall c_had : Nat → Int32} {c_badAct c_badWhy c_alikeAct c_alikeTwo c_work c_isWorked : Int32} {c_trees : Nat → Int64} {c_from c_upTo : Nat → Int32} {c_shape : Nat → Int64} {c_kept c_isKept : Nat → Int32} {c_keptAt c_isWriting : Int32}  (G : GG g E RX8 cX8_below 5 (some .int) 3 0 0) : ∀ (n : Nat) (c_seed : Int32) (c_is : Nat → Int32) (l1 : Int32) (l2 : Int32) (l3 : Int32) (l4 : Int32) (R : Int32), L_X8_below_5 n c_seed c_is l1 l2 l3 l4 = some R → WW g E 5 0 0 (wX8 E a o c_seed c_is c_sightOne c_sightOther c_sights c_pad c_padMany c_act c_which c_key c_other c_acts c_order c_digest c_tall c_had c_badAct c_badWhy c_alikeAct c_alikeTwo c_work c_isWorked c_trees c_from c_upTo c_shape c_kept c_isKept c_keptAt c_isWriting) [(4, .int R)] 37 [] → WW g E 5 0 0 (wX8 E a o c_seed c_is c_sightOne c_sightOther c_sights c_pad c_padMany c_act c_which c_key c_other c_acts c_order c_digest c_tall c_had c_badAct c_badWhy c_alikeAct c_alikeTwo c_work c_isWorked c_trees c_from c_upTo c_shape c_kept c_isKept c_keptAt c_isWriting) [(0, .ref (a o)), (1, .int l1), (2, .int l2), (3, .int l3), (4, .int l4)] 5 [] := by
  intro n
  induction n with
  | zero => intro c_seed c_is l1 l2 l3 l4 R h; exact no_some h
  | succ n ih =>
    intro c_seed c_is l1 l2 l3 l4 R h K
    rw [L_X8_below_5] at h
    refine w_iload (pc2 := 7) G 4 rfl dX8_below_5 rfl ?_
    refine w_iload_n (pc2 := 8) G 3 rfl dX8_below_7 rfl rfl ?_
    refine w_icmp_lt (tgt := 37) (pc2 := 11) G dX8_below_8 (by decide) rfl (fun cc => ?_) (fun cc => ?_)
    · replace h := (if_pos cc).symm.trans h
      cases h
      exact w_lv [4] rfl K
    · replace h := (if_neg cc).symm.trans h
      refine w_aload_n (pc2 := 12) G 0 rfl dX8_below_11 rfl rfl ?_
      refine w_iload_n (pc2 := 13) G 1 rfl dX8_below_12 rfl rfl ?_
      refine w_iload (pc2 := 15) G 4 rfl dX8_below_13 rfl ?_
      obtain ⟨x1, H_x1, h⟩ := bs h
      refine w_cV0 (pc2 := 18) (ws2 := (wX8 E a o c_seed c_is c_sightOne c_sightOther c_sights c_pad c_padMany c_act c_which c_key c_other c_acts c_order c_digest c_tall c_had c_badAct c_badWhy c_alikeAct c_alikeTwo c_work c_isWorked c_trees c_from c_upTo c_shape c_kept c_isKept c_keptAt c_isWriting)) (As := [.int l1, .int l4]) (rest := []) G koX8_95 (r_X8_has H_x1) (Nat.le_of_ble_eq_true rfl) 8 rfl rfl rfl rfl (Nat.le_of_ble_eq_true rfl) ⟨Nat.zero_le _, Nat.zero_le _⟩ dX8_below_15 rfl rfl ?_
      refine w_if_eq (tgt := 31) (pc2 := 21) G dX8_below_18 (by decide) rfl (fun cc => ?_) (fun cc => ?_)
      · replace h := (if_pos cc).symm.trans h
        refine w_iinc (pc2 := 34) (lv2 := [(4, .int (l4 + (-1 : Int32))), (0, .ref (a o)), (1, .int l1), (2, .int l2), (3, .int l3)]) G 4 rfl dX8_below_31 k_iconst_m1 (Nat.le_of_ble_eq_true rfl) rfl rfl ?_
        refine w_goto (tgt := 5) G dX8_below_34 (by decide) ?_
        exact w_lv [1, 2, 3, 4, 0] rfl (ih _ _ _ _ _ _ _ h K)
      · replace h := (if_neg cc).symm.trans h
        refine w_aload_n (pc2 := 22) G 0 rfl dX8_below_21 rfl rfl ?_
        refine w_iload (pc2 := 24) G 4 rfl dX8_below_22 rfl ?_
        refine w_iload_n (pc2 := 25) G 2 rfl dX8_below_24 rfl rfl ?_
        obtain ⟨x2, H_x2, h⟩ := bs h
        refine w_cV0 (pc2 := 28) (ws2 := (wX8 E a o c_seed c_is c_sightOne c_sightOther c_sights c_pad c_padMany c_act c_which c_key c_other c_acts c_order c_digest c_tall c_had c_badAct c_badWhy c_alikeAct c_alikeTwo c_work c_isWorked c_trees c_from c_upTo c_shape c_kept c_isKept c_keptAt c_isWriting)) (As := [.int l4, .int l2]) (rest := []) G koX8_168 (r_X8_ranks H_x2) (Nat.le_of_ble_eq_true rfl) 8 rfl rfl rfl rfl (Nat.le_of_ble_eq_true rfl) ⟨Nat.zero_le _, Nat.zero_le _⟩ dX8_below_25 rfl rfl ?_
        refine w_if_ne (tgt := 37) (pc2 := 31) G dX8_below_28 (by decide) rfl (fun cc => ?_) (fun cc => ?_)
        · replace h := (if_neg cc).symm.trans h
          cases h
          exact w_lv [4] rfl K
        · replace h := (if_pos cc).symm.trans h
          refine w_iinc (pc2 := 34) (lv2 := [(4, .int (l4 + (-1 : Int32))), (0, .ref (a o)), (1, .int l1), (2, .int l2), (3, .int l3)]) G 4 rfl dX8_below_31 k_iconst_m1 (Nat.le_of_ble_eq_true rfl) rfl rfl ?_
          refine w_goto (tgt := 5) G dX8_below_34 (by decide) ?_
          exact w_lv [1, 2, 3, 4, 0] rfl (ih _ _ _ _ _ _ _ h K)
set_option maxHeartbeats 4000000 in
set_option maxRecDepth 100000 in
theorem r_X8_below {l : Launch} {E : EV} {a : Nat → Nat} {o : Nat} {c_seed : Int32} {c_is c_sightOne c_sightOther : Nat → Int32} {c_sights : Int32} {c_pad : Nat → Int32} {c_padMany : Int32} {c_act c_which c_key c_other : Nat → Int32} {c_acts : Int32} {c_order : Nat → Int32} {c_digest : Nat → Int64} {c_tall c_had : Nat → Int32} {c_badAct c_badWhy c_alikeAct c_alikeTwo c_work c_isWorked : Int32} {c_trees : Nat → Int64} {c_from c_upTo : Nat → Int32} {c_shape : Nat → Int64} {c_kept c_isKept : Nat → Int32} {c_keptAt c_isWriting : Int32} {l1 : Int32} {l2 : Int32} {l3 : Int32} {R : Int32} (h : f_X8_below c_seed c_is l1 l2 l3 = some R) : Ret1 l E yX8_below cX8_below 5 (some .int) 3 (wX8 E a o c_seed c_is c_sightOne c_sightOther c_sights c_pad c_padMany c_act c_which c_key c_other c_acts c_order c_digest c_tall c_had c_badAct c_badWhy c_alikeAct c_alikeTwo c_work c_isWorked c_trees c_from c_upTo c_shape c_kept c_isKept c_keptAt c_isWriting) [.ref (a o), .int l1, .int l2, .int l3] (some (.int R)) (wX8 E a o c_seed c_is c_sightOne c_sightOther c_sights c_pad c_padMany c_act c_which c_key c_other c_acts c_order c_digest c_tall c_had c_badAct c_badWhy c_alikeAct c_alikeTwo c_work c_isWorked c_trees c_from c_upTo c_shape c_kept c_isKept c_keptAt c_isWriting) := by
  refine Ret.intro (lv := [(0, .ref (a o)), (1, .int l1), (2, .int l2), (3, .int l3)]) (by decide) (Nat.le_of_ble_eq_true rfl) rfl ?_
  intro g hgl G hQ
  subst hgl
  rw [f_X8_below] at h
  refine w_iload_n (pc2 := 1) G 2 rfl dX8_below_0 rfl rfl ?_
  refine w_iconst (pc2 := 2) G dX8_below_1 k_iconst_1 rfl ?_
  refine w_isub (pc2 := 3) G dX8_below_2 rfl ?_
  refine w_istore (pc2 := 5) (lv2 := [(4, .int (l2 - (1 : Int32))), (0, .ref (a o)), (1, .int l1), (2, .int l2), (3, .int l3)]) G dX8_below_3 (Nat.le_of_ble_eq_true rfl) rfl rfl ?_
  obtain ⟨x1, h0, h⟩ := bs h
  have K_x1 : WW g E 5 0 0 (wX8 E a o c_seed c_is c_sightOne c_sightOther c_sights c_pad c_padMany c_act c_which c_key c_other c_acts c_order c_digest c_tall c_had c_badAct c_badWhy c_alikeAct c_alikeTwo c_work c_isWorked c_trees c_from c_upTo c_shape c_kept c_isKept c_keptAt c_isWriting) [(4, .int x1)] 37 [] := by
    clear h0
    refine w_iload (pc2 := 39) G 0 rfl dX8_below_37 rfl ?_
    cases h
    exact w_iret G hQ rfl ⟨rfl, rfl⟩ dX8_below_39
  exact w_lv [1, 2, 3, 4, 0] rfl (lp_X8_below_5 G 20000 _ _ _ _ _ _ _ h0 (w_lv [0] rfl K_x1))

set_option maxHeartbeats 4000000 in
set_option maxRecDepth 100000 in
theorem lp_X8_beyond_5 {g : CX} {E : EV} {a : Nat → Nat} {o : Nat} {c_sightOne c_sightOther : Nat → Int32} {c_sights : Int32} {c_pad : Nat → Int32} {c_padMany : Int32} {c_act c_which c_key c_other : Nat → Int32} {c_acts : Int32} {c_order : Nat → Int32} {c_digest : Nat → Int64} {c_tall c_had : Nat → Int32} {c_badAct c_badWhy c_alikeAct c_alikeTwo c_work c_isWorked : Int32} {c_trees : Nat → Int64} {c_from c_upTo : Nat → Int32} {c_shape : Nat → Int64} {c_kept c_isKept : Nat → Int32} {c_keptAt c_isWriting : Int32}  (G : GG g E RX8 cX8_beyond 5 (some .int) 3 0 0) : ∀ (n : Nat) (c_seed : Int32) (c_is : Nat → Int32) (l1 : Int32) (l2 : Int32) (l3 : Int32) (l4 : Int32) (R : Int32), L_X8_beyond_5 n c_seed c_is l1 l2 l3 l4 = some R → WW g E 5 0 0 (wX8 E a o c_seed c_is c_sightOne c_sightOther c_sights c_pad c_padMany c_act c_which c_key c_other c_acts c_order c_digest c_tall c_had c_badAct c_badWhy c_alikeAct c_alikeTwo c_work c_isWorked c_trees c_from c_upTo c_shape c_kept c_isKept c_keptAt c_isWriting) [(4, .int R)] 37 [] → WW g E 5 0 0 (wX8 E a o c_seed c_is c_sightOne c_sightOther c_sights c_pad c_padMany c_act c_which c_key c_other c_acts c_order c_digest c_tall c_had c_badAct c_badWhy c_alikeAct c_alikeTwo c_work c_isWorked c_trees c_from c_upTo c_shape c_kept c_isKept c_keptAt c_isWriting) [(0, .ref (a o)), (1, .int l1), (2, .int l2), (3, .int l3), (4, .int l4)] 5 [] := by
  intro n
  induction n with
  | zero => intro c_seed c_is l1 l2 l3 l4 R h; exact no_some h
  | succ n ih =>
    intro c_seed c_is l1 l2 l3 l4 R h K
    rw [L_X8_beyond_5] at h
    refine w_iload (pc2 := 7) G 4 rfl dX8_beyond_5 rfl ?_
    refine w_iload_n (pc2 := 8) G 3 rfl dX8_beyond_7 rfl rfl ?_
    refine w_icmp_gt (tgt := 37) (pc2 := 11) G dX8_beyond_8 (by decide) rfl (fun cc => ?_) (fun cc => ?_)
    · replace h := (if_pos cc).symm.trans h
      cases h
      exact w_lv [4] rfl K
    · replace h := (if_neg cc).symm.trans h
      refine w_aload_n (pc2 := 12) G 0 rfl dX8_beyond_11 rfl rfl ?_
      refine w_iload_n (pc2 := 13) G 1 rfl dX8_beyond_12 rfl rfl ?_
      refine w_iload (pc2 := 15) G 4 rfl dX8_beyond_13 rfl ?_
      obtain ⟨x1, H_x1, h⟩ := bs h
      refine w_cV0 (pc2 := 18) (ws2 := (wX8 E a o c_seed c_is c_sightOne c_sightOther c_sights c_pad c_padMany c_act c_which c_key c_other c_acts c_order c_digest c_tall c_had c_badAct c_badWhy c_alikeAct c_alikeTwo c_work c_isWorked c_trees c_from c_upTo c_shape c_kept c_isKept c_keptAt c_isWriting)) (As := [.int l1, .int l4]) (rest := []) G koX8_95 (r_X8_has H_x1) (Nat.le_of_ble_eq_true rfl) 8 rfl rfl rfl rfl (Nat.le_of_ble_eq_true rfl) ⟨Nat.zero_le _, Nat.zero_le _⟩ dX8_beyond_15 rfl rfl ?_
      refine w_if_eq (tgt := 31) (pc2 := 21) G dX8_beyond_18 (by decide) rfl (fun cc => ?_) (fun cc => ?_)
      · replace h := (if_pos cc).symm.trans h
        refine w_iinc (pc2 := 34) (lv2 := [(4, .int (l4 + (1 : Int32))), (0, .ref (a o)), (1, .int l1), (2, .int l2), (3, .int l3)]) G 4 rfl dX8_beyond_31 k_iconst_1 (Nat.le_of_ble_eq_true rfl) rfl rfl ?_
        refine w_goto (tgt := 5) G dX8_beyond_34 (by decide) ?_
        exact w_lv [1, 2, 3, 4, 0] rfl (ih _ _ _ _ _ _ _ h K)
      · replace h := (if_neg cc).symm.trans h
        refine w_aload_n (pc2 := 22) G 0 rfl dX8_beyond_21 rfl rfl ?_
        refine w_iload (pc2 := 24) G 4 rfl dX8_beyond_22 rfl ?_
        refine w_iload_n (pc2 := 25) G 2 rfl dX8_beyond_24 rfl rfl ?_
        obtain ⟨x2, H_x2, h⟩ := bs h
        refine w_cV0 (pc2 := 28) (ws2 := (wX8 E a o c_seed c_is c_sightOne c_sightOther c_sights c_pad c_padMany c_act c_which c_key c_other c_acts c_order c_digest c_tall c_had c_badAct c_badWhy c_alikeAct c_alikeTwo c_work c_isWorked c_trees c_from c_upTo c_shape c_kept c_isKept c_keptAt c_isWriting)) (As := [.int l4, .int l2]) (rest := []) G koX8_168 (r_X8_ranks H_x2) (Nat.le_of_ble_eq_true rfl) 8 rfl rfl rfl rfl (Nat.le_of_ble_eq_true rfl) ⟨Nat.zero_le _, Nat.zero_le _⟩ dX8_beyond_25 rfl rfl ?_
        refine w_if_ne (tgt := 37) (pc2 := 31) G dX8_beyond_28 (by decide) rfl (fun cc => ?_) (fun cc => ?_)
        · replace h := (if_neg cc).symm.trans h
          cases h
          exact w_lv [4] rfl K
        · replace h := (if_pos cc).symm.trans h
          refine w_iinc (pc2 := 34) (lv2 := [(4, .int (l4 + (1 : Int32))), (0, .ref (a o)), (1, .int l1), (2, .int l2), (3, .int l3)]) G 4 rfl dX8_beyond_31 k_iconst_1 (Nat.le_of_ble_eq_true rfl) rfl rfl ?_
          refine w_goto (tgt := 5) G dX8_beyond_34 (by decide) ?_
          exact w_lv [1, 2, 3, 4, 0] rfl (ih _ _ _ _ _ _ _ h K)
set_option maxHeartbeats 4000000 in
set_option maxRecDepth 100000 in
theorem r_X8_beyond {l : Launch} {E : EV} {a : Nat → Nat} {o : Nat} {c_seed : Int32} {c_is c_sightOne c_sightOther : Nat → Int32} {c_sights : Int32} {c_pad : Nat → Int32} {c_padMany : Int32} {c_act c_which c_key c_other : Nat → Int32} {c_acts : Int32} {c_order : Nat → Int32} {c_digest : Nat → Int64} {c_tall c_had : Nat → Int32} {c_badAct c_badWhy c_alikeAct c_alikeTwo c_work c_isWorked : Int32} {c_trees : Nat → Int64} {c_from c_upTo : Nat → Int32} {c_shape : Nat → Int64} {c_kept c_isKept : Nat → Int32} {c_keptAt c_isWriting : Int32} {l1 : Int32} {l2 : Int32} {l3 : Int32} {R : Int32} (h : f_X8_beyond c_seed c_is l1 l2 l3 = some R) : Ret1 l E yX8_beyond cX8_beyond 5 (some .int) 3 (wX8 E a o c_seed c_is c_sightOne c_sightOther c_sights c_pad c_padMany c_act c_which c_key c_other c_acts c_order c_digest c_tall c_had c_badAct c_badWhy c_alikeAct c_alikeTwo c_work c_isWorked c_trees c_from c_upTo c_shape c_kept c_isKept c_keptAt c_isWriting) [.ref (a o), .int l1, .int l2, .int l3] (some (.int R)) (wX8 E a o c_seed c_is c_sightOne c_sightOther c_sights c_pad c_padMany c_act c_which c_key c_other c_acts c_order c_digest c_tall c_had c_badAct c_badWhy c_alikeAct c_alikeTwo c_work c_isWorked c_trees c_from c_upTo c_shape c_kept c_isKept c_keptAt c_isWriting) := by
  refine Ret.intro (lv := [(0, .ref (a o)), (1, .int l1), (2, .int l2), (3, .int l3)]) (by decide) (Nat.le_of_ble_eq_true rfl) rfl ?_
  intro g hgl G hQ
  subst hgl
  rw [f_X8_beyond] at h
  refine w_iload_n (pc2 := 1) G 2 rfl dX8_beyond_0 rfl rfl ?_
  refine w_iconst (pc2 := 2) G dX8_beyond_1 k_iconst_1 rfl ?_
  refine w_iadd (pc2 := 3) G dX8_beyond_2 rfl ?_
  refine w_istore (pc2 := 5) (lv2 := [(4, .int (l2 + (1 : Int32))), (0, .ref (a o)), (1, .int l1), (2, .int l2), (3, .int l3)]) G dX8_beyond_3 (Nat.le_of_ble_eq_true rfl) rfl rfl ?_
  obtain ⟨x1, h0, h⟩ := bs h
  have K_x1 : WW g E 5 0 0 (wX8 E a o c_seed c_is c_sightOne c_sightOther c_sights c_pad c_padMany c_act c_which c_key c_other c_acts c_order c_digest c_tall c_had c_badAct c_badWhy c_alikeAct c_alikeTwo c_work c_isWorked c_trees c_from c_upTo c_shape c_kept c_isKept c_keptAt c_isWriting) [(4, .int x1)] 37 [] := by
    clear h0
    refine w_iload (pc2 := 39) G 0 rfl dX8_beyond_37 rfl ?_
    cases h
    exact w_iret G hQ rfl ⟨rfl, rfl⟩ dX8_beyond_39
  exact w_lv [1, 2, 3, 4, 0] rfl (lp_X8_beyond_5 G 20000 _ _ _ _ _ _ _ h0 (w_lv [0] rfl K_x1))

set_option maxHeartbeats 4000000 in
set_option maxRecDepth 100000 in
theorem lp_X8_rootOf_7 {g : CX} {E : EV} {a : Nat → Nat} {o : Nat} {c_sightOne c_sightOther : Nat → Int32} {c_sights : Int32} {c_pad : Nat → Int32} {c_padMany : Int32} {c_act c_which c_key c_other : Nat → Int32} {c_acts : Int32} {c_order : Nat → Int32} {c_digest : Nat → Int64} {c_tall c_had : Nat → Int32} {c_badAct c_badWhy c_alikeAct c_alikeTwo c_work c_isWorked : Int32} {c_trees : Nat → Int64} {c_from c_upTo : Nat → Int32} {c_shape : Nat → Int64} {c_kept c_isKept : Nat → Int32} {c_keptAt c_isWriting : Int32}  (G : GG g E RX8 cX8_rootOf 6 (some .int) 3 0 0) : ∀ (n : Nat) (c_seed : Int32) (c_is : Nat → Int32) (l1 : Int32) (l3 : Int32) (l4 : Int32) (l5 : Int32) (R : Int32), L_X8_rootOf_7 n c_seed c_is l1 l3 l4 l5 = some R → WW g E 6 0 0 (wX8 E a o c_seed c_is c_sightOne c_sightOther c_sights c_pad c_padMany c_act c_which c_key c_other c_acts c_order c_digest c_tall c_had c_badAct c_badWhy c_alikeAct c_alikeTwo c_work c_isWorked c_trees c_from c_upTo c_shape c_kept c_isKept c_keptAt c_isWriting) [(4, .int R)] 54 [] → WW g E 6 0 0 (wX8 E a o c_seed c_is c_sightOne c_sightOther c_sights c_pad c_padMany c_act c_which c_key c_other c_acts c_order c_digest c_tall c_had c_badAct c_badWhy c_alikeAct c_alikeTwo c_work c_isWorked c_trees c_from c_upTo c_shape c_kept c_isKept c_keptAt c_isWriting) [(0, .ref (a o)), (1, .int l1), (3, .int l3), (4, .int l4), (5, .int l5)] 7 [] := by
  intro n
  induction n with
  | zero => intro c_seed c_is l1 l3 l4 l5 R h; exact no_some h
  | succ n ih =>
    intro c_seed c_is l1 l3 l4 l5 R h K
    rw [L_X8_rootOf_7] at h
    refine w_iload (pc2 := 9) G 4 rfl dX8_rootOf_7 rfl ?_
    refine w_iload_n (pc2 := 10) G 2 rfl dX8_rootOf_9 rfl rfl ?_
    refine w_icmp_gt (tgt := 54) (pc2 := 13) G dX8_rootOf_10 (by decide) rfl (fun cc => ?_) (fun cc => ?_)
    · replace h := (if_pos cc).symm.trans h
      cases h
      exact w_lv [3] rfl K
    · replace h := (if_neg cc).symm.trans h
      refine w_aload_n (pc2 := 14) G 0 rfl dX8_rootOf_13 rfl rfl ?_
      refine w_iload_n (pc2 := 15) G 1 rfl dX8_rootOf_14 rfl rfl ?_
      refine w_iload (pc2 := 17) G 4 rfl dX8_rootOf_15 rfl ?_
      obtain ⟨x1, H_x1, h⟩ := bs h
      refine w_cV0 (pc2 := 20) (ws2 := (wX8 E a o c_seed c_is c_sightOne c_sightOther c_sights c_pad c_padMany c_act c_which c_key c_other c_acts c_order c_digest c_tall c_had c_badAct c_badWhy c_alikeAct c_alikeTwo c_work c_isWorked c_trees c_from c_upTo c_shape c_kept c_isKept c_keptAt c_isWriting)) (As := [.int l1, .int l5]) (rest := []) G koX8_95 (r_X8_has H_x1) (Nat.le_of_ble_eq_true rfl) 8 rfl rfl rfl rfl (Nat.le_of_ble_eq_true rfl) ⟨Nat.zero_le _, Nat.zero_le _⟩ dX8_rootOf_17 rfl rfl ?_
      refine w_if_eq (tgt := 44) (pc2 := 23) G dX8_rootOf_20 (by decide) rfl (fun cc => ?_) (fun cc => ?_)
      · replace h := (if_pos cc).symm.trans h
        refine w_iload (pc2 := 46) G 3 rfl dX8_rootOf_44 rfl ?_
        refine w_istore (pc2 := 48) (lv2 := [(4, .int l4), (0, .ref (a o)), (1, .int l1), (3, .int l3), (5, .int l5)]) G dX8_rootOf_46 (Nat.le_of_ble_eq_true rfl) rfl rfl ?_
        refine w_iinc (pc2 := 51) (lv2 := [(5, .int (l5 + (1 : Int32))), (4, .int l4), (0, .ref (a o)), (1, .int l1), (3, .int l3)]) G 4 rfl dX8_rootOf_48 k_iconst_1 (Nat.le_of_ble_eq_true rfl) rfl rfl ?_
        refine w_goto (tgt := 7) G dX8_rootOf_51 (by decide) ?_
        exact w_lv [2, 3, 4, 1, 0] rfl (ih _ _ _ _ _ _ _ h K)
      · replace h := (if_neg cc).symm.trans h
        refine w_iload (pc2 := 25) G 3 rfl dX8_rootOf_23 rfl ?_
        refine w_if_lt (tgt := 39) (pc2 := 28) G dX8_rootOf_25 (by decide) rfl (fun cc => ?_) (fun cc => ?_)
        · replace h := (if_pos cc).symm.trans h
          refine w_iload (pc2 := 41) G 4 rfl dX8_rootOf_39 rfl ?_
          refine w_goto (tgt := 46) G dX8_rootOf_41 (by decide) ?_
          refine w_istore (pc2 := 48) (lv2 := [(4, .int l5), (0, .ref (a o)), (1, .int l1), (3, .int l3), (5, .int l5)]) G dX8_rootOf_46 (Nat.le_of_ble_eq_true rfl) rfl rfl ?_
          refine w_iinc (pc2 := 51) (lv2 := [(5, .int (l5 + (1 : Int32))), (4, .int l5), (0, .ref (a o)), (1, .int l1), (3, .int l3)]) G 4 rfl dX8_rootOf_48 k_iconst_1 (Nat.le_of_ble_eq_true rfl) rfl rfl ?_
          refine w_goto (tgt := 7) G dX8_rootOf_51 (by decide) ?_
          exact w_lv [2, 3, 4, 1, 0] rfl (ih _ _ _ _ _ _ _ h K)
        · replace h := (if_neg cc).symm.trans h
          refine w_aload_n (pc2 := 29) G 0 rfl dX8_rootOf_28 rfl rfl ?_
          refine w_iload (pc2 := 31) G 4 rfl dX8_rootOf_29 rfl ?_
          refine w_iload (pc2 := 33) G 3 rfl dX8_rootOf_31 rfl ?_
          obtain ⟨x2, H_x2, h⟩ := bs h
          refine w_cV0 (pc2 := 36) (ws2 := (wX8 E a o c_seed c_is c_sightOne c_sightOther c_sights c_pad c_padMany c_act c_which c_key c_other c_acts c_order c_digest c_tall c_had c_badAct c_badWhy c_alikeAct c_alikeTwo c_work c_isWorked c_trees c_from c_upTo c_shape c_kept c_isKept c_keptAt c_isWriting)) (As := [.int l5, .int l4]) (rest := []) G koX8_168 (r_X8_ranks H_x2) (Nat.le_of_ble_eq_true rfl) 8 rfl rfl rfl rfl (Nat.le_of_ble_eq_true rfl) ⟨Nat.zero_le _, Nat.zero_le _⟩ dX8_rootOf_33 rfl rfl ?_
          refine w_if_eq (tgt := 44) (pc2 := 39) G dX8_rootOf_36 (by decide) rfl (fun cc => ?_) (fun cc => ?_)
          · replace h := (if_pos cc).symm.trans h
            refine w_iload (pc2 := 46) G 3 rfl dX8_rootOf_44 rfl ?_
            refine w_istore (pc2 := 48) (lv2 := [(4, .int l4), (0, .ref (a o)), (1, .int l1), (3, .int l3), (5, .int l5)]) G dX8_rootOf_46 (Nat.le_of_ble_eq_true rfl) rfl rfl ?_
            refine w_iinc (pc2 := 51) (lv2 := [(5, .int (l5 + (1 : Int32))), (4, .int l4), (0, .ref (a o)), (1, .int l1), (3, .int l3)]) G 4 rfl dX8_rootOf_48 k_iconst_1 (Nat.le_of_ble_eq_true rfl) rfl rfl ?_
            refine w_goto (tgt := 7) G dX8_rootOf_51 (by decide) ?_
            exact w_lv [2, 3, 4, 1, 0] rfl (ih _ _ _ _ _ _ _ h K)
          · replace h := (if_neg cc).symm.trans h
            refine w_iload (pc2 := 41) G 4 rfl dX8_rootOf_39 rfl ?_
            refine w_goto (tgt := 46) G dX8_rootOf_41 (by decide) ?_
            refine w_istore (pc2 := 48) (lv2 := [(4, .int l5), (0, .ref (a o)), (1, .int l1), (3, .int l3), (5, .int l5)]) G dX8_rootOf_46 (Nat.le_of_ble_eq_true rfl) rfl rfl ?_
            refine w_iinc (pc2 := 51) (lv2 := [(5, .int (l5 + (1 : Int32))), (4, .int l5), (0, .ref (a o)), (1, .int l1), (3, .int l3)]) G 4 rfl dX8_rootOf_48 k_iconst_1 (Nat.le_of_ble_eq_true rfl) rfl rfl ?_
            refine w_goto (tgt := 7) G dX8_rootOf_51 (by decide) ?_
            exact w_lv [2, 3, 4, 1, 0] rfl (ih _ _ _ _ _ _ _ h K)
set_option maxHeartbeats 4000000 in
set_option maxRecDepth 100000 in
theorem r_X8_rootOf {l : Launch} {E : EV} {a : Nat → Nat} {o : Nat} {c_seed : Int32} {c_is c_sightOne c_sightOther : Nat → Int32} {c_sights : Int32} {c_pad : Nat → Int32} {c_padMany : Int32} {c_act c_which c_key c_other : Nat → Int32} {c_acts : Int32} {c_order : Nat → Int32} {c_digest : Nat → Int64} {c_tall c_had : Nat → Int32} {c_badAct c_badWhy c_alikeAct c_alikeTwo c_work c_isWorked : Int32} {c_trees : Nat → Int64} {c_from c_upTo : Nat → Int32} {c_shape : Nat → Int64} {c_kept c_isKept : Nat → Int32} {c_keptAt c_isWriting : Int32} {l1 : Int32} {l2 : Int32} {l3 : Int32} {R : Int32} (h : f_X8_rootOf c_seed c_is l1 l2 l3 = some R) : Ret1 l E yX8_rootOf cX8_rootOf 6 (some .int) 3 (wX8 E a o c_seed c_is c_sightOne c_sightOther c_sights c_pad c_padMany c_act c_which c_key c_other c_acts c_order c_digest c_tall c_had c_badAct c_badWhy c_alikeAct c_alikeTwo c_work c_isWorked c_trees c_from c_upTo c_shape c_kept c_isKept c_keptAt c_isWriting) [.ref (a o), .int l1, .int l2, .int l3] (some (.int R)) (wX8 E a o c_seed c_is c_sightOne c_sightOther c_sights c_pad c_padMany c_act c_which c_key c_other c_acts c_order c_digest c_tall c_had c_badAct c_badWhy c_alikeAct c_alikeTwo c_work c_isWorked c_trees c_from c_upTo c_shape c_kept c_isKept c_keptAt c_isWriting) := by
  refine Ret.intro (lv := [(0, .ref (a o)), (1, .int l1), (2, .int l2), (3, .int l3)]) (by decide) (Nat.le_of_ble_eq_true rfl) rfl ?_
  intro g hgl G hQ
  subst hgl
  rw [f_X8_rootOf] at h
  refine w_bipush (pc2 := 2) G dX8_rootOf_0 k_bipush_m6 rfl ?_
  refine w_istore (pc2 := 4) (lv2 := [(4, .int (-6 : Int32)), (0, .ref (a o)), (1, .int l1), (2, .int l2), (3, .int l3)]) G dX8_rootOf_2 (Nat.le_of_ble_eq_true rfl) rfl rfl ?_
  refine w_iload_n (pc2 := 5) G 3 rfl dX8_rootOf_4 rfl rfl ?_
  refine w_istore (pc2 := 7) (lv2 := [(5, .int l2), (4, .int (-6 : Int32)), (0, .ref (a o)), (1, .int l1), (2, .int l2), (3, .int l3)]) G dX8_rootOf_5 (Nat.le_of_ble_eq_true rfl) rfl rfl ?_
  obtain ⟨x1, h0, h⟩ := bs h
  have K_x1 : WW g E 6 0 0 (wX8 E a o c_seed c_is c_sightOne c_sightOther c_sights c_pad c_padMany c_act c_which c_key c_other c_acts c_order c_digest c_tall c_had c_badAct c_badWhy c_alikeAct c_alikeTwo c_work c_isWorked c_trees c_from c_upTo c_shape c_kept c_isKept c_keptAt c_isWriting) [(4, .int x1)] 54 [] := by
    clear h0
    refine w_iload (pc2 := 56) G 0 rfl dX8_rootOf_54 rfl ?_
    cases h
    exact w_iret G hQ rfl ⟨rfl, rfl⟩ dX8_rootOf_56
  exact w_lv [2, 3, 5, 1, 0] rfl (lp_X8_rootOf_7 G 20000 _ _ _ _ _ _ _ h0 (w_lv [0] rfl K_x1))

set_option maxHeartbeats 4000000 in
set_option maxRecDepth 100000 in
theorem lp_X8_treeOf_23 {g : CX} {E : EV} {a : Nat → Nat} {o : Nat} {c_seed : Int32} {c_sightOne c_sightOther : Nat → Int32} {c_sights : Int32} {c_pad : Nat → Int32} {c_padMany : Int32} {c_act c_which c_key c_other : Nat → Int32} {c_acts : Int32} {c_order : Nat → Int32} {c_digest : Nat → Int64} {c_tall c_had : Nat → Int32} {c_badAct c_badWhy c_alikeAct c_alikeTwo c_work c_isWorked : Int32} {c_trees : Nat → Int64} {c_from c_upTo : Nat → Int32} {c_shape : Nat → Int64} {c_kept c_isKept : Nat → Int32} {c_keptAt c_isWriting : Int32}  (G : GG g E RX8 cX8_treeOf 7 (some .long) 4 0 0) : ∀ (n : Nat) (c_is : Nat → Int32) (l1 : Int32) (l3 : Int64) (l5 : Int32) (l6 : Int32) (R : Int64), L_X8_treeOf_23 n c_is l1 l3 l5 l6 = some R → WW g E 7 0 0 (wX8 E a o c_seed c_is c_sightOne c_sightOther c_sights c_pad c_padMany c_act c_which c_key c_other c_acts c_order c_digest c_tall c_had c_badAct c_badWhy c_alikeAct c_alikeTwo c_work c_isWorked c_trees c_from c_upTo c_shape c_kept c_isKept c_keptAt c_isWriting) [(3, .long R)] 57 [] → WW g E 7 0 0 (wX8 E a o c_seed c_is c_sightOne c_sightOther c_sights c_pad c_padMany c_act c_which c_key c_other c_acts c_order c_digest c_tall c_had c_badAct c_badWhy c_alikeAct c_alikeTwo c_work c_isWorked c_trees c_from c_upTo c_shape c_kept c_isKept c_keptAt c_isWriting) [(0, .ref (a o)), (1, .int l1), (3, .long l3), (5, .int l5), (6, .int l6)] 23 [] := by
  intro n
  induction n with
  | zero => intro c_is l1 l3 l5 l6 R h; exact no_some h
  | succ n ih =>
    intro c_is l1 l3 l5 l6 R h K
    rw [L_X8_treeOf_23] at h
    refine w_iload (pc2 := 25) G 4 rfl dX8_treeOf_23 rfl ?_
    refine w_iload (pc2 := 27) G 3 rfl dX8_treeOf_25 rfl ?_
    refine w_icmp_ge (tgt := 57) (pc2 := 30) G dX8_treeOf_27 (by decide) rfl (fun cc => ?_) (fun cc => ?_)
    · replace h := (if_pos cc).symm.trans h
      cases h
      exact w_lv [2] rfl K
    · replace h := (if_neg cc).symm.trans h
      refine w_lload_n (pc2 := 31) G 2 rfl dX8_treeOf_30 rfl rfl ?_
      refine w_aload_n (pc2 := 32) G 0 rfl dX8_treeOf_31 rfl rfl ?_
      refine w_iload_n (pc2 := 33) G 1 rfl dX8_treeOf_32 rfl rfl ?_
      refine w_iload (pc2 := 35) G 4 rfl dX8_treeOf_33 rfl ?_
      obtain ⟨x1, H_x1, h⟩ := bs h
      refine w_cV0 (pc2 := 38) (ws2 := (wX8 E a o c_seed c_is c_sightOne c_sightOther c_sights c_pad c_padMany c_act c_which c_key c_other c_acts c_order c_digest c_tall c_had c_badAct c_badWhy c_alikeAct c_alikeTwo c_work c_isWorked c_trees c_from c_upTo c_shape c_kept c_isKept c_keptAt c_isWriting)) (As := [.int l1, .int l6]) (rest := [.long l3]) G koX8_95 (r_X8_has H_x1) (Nat.le_of_ble_eq_true rfl) 8 rfl rfl rfl rfl (Nat.le_of_ble_eq_true rfl) ⟨Nat.zero_le _, Nat.zero_le _⟩ dX8_treeOf_35 rfl rfl ?_
      refine w_if_eq (tgt := 48) (pc2 := 41) G dX8_treeOf_38 (by decide) rfl (fun cc => ?_) (fun cc => ?_)
      · replace h := (if_pos cc).symm.trans h
        refine w_lconst (pc2 := 49) G dX8_treeOf_48 k_lconst_0 rfl ?_
        refine w_lor (pc2 := 50) G dX8_treeOf_49 rfl ?_
        refine w_lstore_n (pc2 := 51) (lv2 := [(3, .long (l3 ||| (0 : Int64))), (0, .ref (a o)), (1, .int l1), (5, .int l5), (6, .int l6)]) G dX8_treeOf_50 rfl (Nat.le_of_ble_eq_true rfl) rfl rfl ?_
        refine w_iinc (pc2 := 54) (lv2 := [(6, .int (l6 + (1 : Int32))), (3, .long (l3 ||| (0 : Int64))), (0, .ref (a o)), (1, .int l1), (5, .int l5)]) G 4 rfl dX8_treeOf_51 k_iconst_1 (Nat.le_of_ble_eq_true rfl) rfl rfl ?_
        refine w_goto (tgt := 23) G dX8_treeOf_54 (by decide) ?_
        exact w_lv [2, 3, 1, 4, 0] rfl (ih _ _ _ _ _ _ h K)
      · replace h := (if_neg cc).symm.trans h
        refine w_lconst (pc2 := 42) G dX8_treeOf_41 k_lconst_1 rfl ?_
        refine w_iload (pc2 := 44) G 4 rfl dX8_treeOf_42 rfl ?_
        refine w_lshl (pc2 := 45) G dX8_treeOf_44 rfl ?_
        refine w_goto (tgt := 49) G dX8_treeOf_45 (by decide) ?_
        refine w_lor (pc2 := 50) G dX8_treeOf_49 rfl ?_
        refine w_lstore_n (pc2 := 51) (lv2 := [(3, .long (l3 ||| ((1 : Int64) <<< (l6.toInt64 &&& 63)))), (0, .ref (a o)), (1, .int l1), (5, .int l5), (6, .int l6)]) G dX8_treeOf_50 rfl (Nat.le_of_ble_eq_true rfl) rfl rfl ?_
        refine w_iinc (pc2 := 54) (lv2 := [(6, .int (l6 + (1 : Int32))), (3, .long (l3 ||| ((1 : Int64) <<< (l6.toInt64 &&& 63)))), (0, .ref (a o)), (1, .int l1), (5, .int l5)]) G 4 rfl dX8_treeOf_51 k_iconst_1 (Nat.le_of_ble_eq_true rfl) rfl rfl ?_
        refine w_goto (tgt := 23) G dX8_treeOf_54 (by decide) ?_
        exact w_lv [2, 3, 1, 4, 0] rfl (ih _ _ _ _ _ _ h K)
set_option maxHeartbeats 4000000 in
set_option maxRecDepth 100000 in
theorem r_X8_treeOf {l : Launch} {E : EV} {a : Nat → Nat} {o : Nat} {c_seed : Int32} {c_is c_sightOne c_sightOther : Nat → Int32} {c_sights : Int32} {c_pad : Nat → Int32} {c_padMany : Int32} {c_act c_which c_key c_other : Nat → Int32} {c_acts : Int32} {c_order : Nat → Int32} {c_digest : Nat → Int64} {c_tall c_had : Nat → Int32} {c_badAct c_badWhy c_alikeAct c_alikeTwo c_work c_isWorked : Int32} {c_trees : Nat → Int64} {c_from c_upTo : Nat → Int32} {c_shape : Nat → Int64} {c_kept c_isKept : Nat → Int32} {c_keptAt c_isWriting : Int32} {l1 : Int32} {l2 : Int32} {R : Int64} (h : f_X8_treeOf c_seed c_is l1 l2 = some R) : Ret1 l E yX8_treeOf cX8_treeOf 7 (some .long) 4 (wX8 E a o c_seed c_is c_sightOne c_sightOther c_sights c_pad c_padMany c_act c_which c_key c_other c_acts c_order c_digest c_tall c_had c_badAct c_badWhy c_alikeAct c_alikeTwo c_work c_isWorked c_trees c_from c_upTo c_shape c_kept c_isKept c_keptAt c_isWriting) [.ref (a o), .int l1, .int l2] (some (.long R)) (wX8 E a o c_seed c_is c_sightOne c_sightOther c_sights c_pad c_padMany c_act c_which c_key c_other c_acts c_order c_digest c_tall c_had c_badAct c_badWhy c_alikeAct c_alikeTwo c_work c_isWorked c_trees c_from c_upTo c_shape c_kept c_isKept c_keptAt c_isWriting) := by
  refine Ret.intro (lv := [(0, .ref (a o)), (1, .int l1), (2, .int l2)]) (by decide) (Nat.le_of_ble_eq_true rfl) rfl ?_
  intro g hgl G hQ
  subst hgl
  rw [f_X8_treeOf] at h
  refine w_lconst (pc2 := 1) G dX8_treeOf_0 k_lconst_0 rfl ?_
  refine w_lstore_n (pc2 := 2) (lv2 := [(3, .long (0 : Int64)), (0, .ref (a o)), (1, .int l1), (2, .int l2)]) G dX8_treeOf_1 rfl (Nat.le_of_ble_eq_true rfl) rfl rfl ?_
  refine w_aload_n (pc2 := 3) G 1 rfl dX8_treeOf_2 rfl rfl ?_
  refine w_iload_n (pc2 := 4) G 2 rfl dX8_treeOf_3 rfl rfl ?_
  refine w_iload_n (pc2 := 5) G 3 rfl dX8_treeOf_4 rfl rfl ?_
  refine w_bipush (pc2 := 7) G dX8_treeOf_5 k_bipush_49 rfl ?_
  obtain ⟨x1, H_x1, h⟩ := bs h
  refine w_cV0 (pc2 := 10) (ws2 := (wX8 E a o c_seed c_is c_sightOne c_sightOther c_sights c_pad c_padMany c_act c_which c_key c_other c_acts c_order c_digest c_tall c_had c_badAct c_badWhy c_alikeAct c_alikeTwo c_work c_isWorked c_trees c_from c_upTo c_shape c_kept c_isKept c_keptAt c_isWriting)) (As := [.int l1, .int l2, .int (49 : Int32)]) (rest := []) G koX8_171 (r_X8_beyond H_x1) (Nat.le_of_ble_eq_true rfl) 8 rfl rfl rfl rfl (Nat.le_of_ble_eq_true rfl) ⟨Nat.zero_le _, Nat.zero_le _⟩ dX8_treeOf_7 rfl rfl ?_
  refine w_istore (pc2 := 12) (lv2 := [(5, .int x1), (3, .long (0 : Int64)), (0, .ref (a o)), (1, .int l1), (2, .int l2)]) G dX8_treeOf_10 (Nat.le_of_ble_eq_true rfl) rfl rfl ?_
  refine w_aload_n (pc2 := 13) G 2 rfl dX8_treeOf_12 rfl rfl ?_
  refine w_iload_n (pc2 := 14) G 3 rfl dX8_treeOf_13 rfl rfl ?_
  refine w_iload_n (pc2 := 15) G 4 rfl dX8_treeOf_14 rfl rfl ?_
  refine w_iconst (pc2 := 16) G dX8_treeOf_15 k_iconst_0 rfl ?_
  obtain ⟨x2, H_x2, h⟩ := bs h
  refine w_cV0 (pc2 := 19) (ws2 := (wX8 E a o c_seed c_is c_sightOne c_sightOther c_sights c_pad c_padMany c_act c_which c_key c_other c_acts c_order c_digest c_tall c_had c_badAct c_badWhy c_alikeAct c_alikeTwo c_work c_isWorked c_trees c_from c_upTo c_shape c_kept c_isKept c_keptAt c_isWriting)) (As := [.int l1, .int l2, .int (0 : Int32)]) (rest := []) G koX8_174 (r_X8_below H_x2) (Nat.le_of_ble_eq_true rfl) 8 rfl rfl rfl rfl (Nat.le_of_ble_eq_true rfl) ⟨Nat.zero_le _, Nat.zero_le _⟩ dX8_treeOf_16 rfl rfl ?_
  refine w_iconst (pc2 := 20) G dX8_treeOf_19 k_iconst_1 rfl ?_
  refine w_iadd (pc2 := 21) G dX8_treeOf_20 rfl ?_
  refine w_istore (pc2 := 23) (lv2 := [(6, .int (x2 + (1 : Int32))), (5, .int x1), (3, .long (0 : Int64)), (0, .ref (a o)), (1, .int l1), (2, .int l2)]) G dX8_treeOf_21 (Nat.le_of_ble_eq_true rfl) rfl rfl ?_
  obtain ⟨x3, h0, h⟩ := bs h
  have K_x3 : WW g E 7 0 0 (wX8 E a o c_seed c_is c_sightOne c_sightOther c_sights c_pad c_padMany c_act c_which c_key c_other c_acts c_order c_digest c_tall c_had c_badAct c_badWhy c_alikeAct c_alikeTwo c_work c_isWorked c_trees c_from c_upTo c_shape c_kept c_isKept c_keptAt c_isWriting) [(3, .long x3)] 57 [] := by
    clear h0
    refine w_lload_n (pc2 := 58) G 0 rfl dX8_treeOf_57 rfl rfl ?_
    cases h
    exact w_lret G hQ rfl ⟨rfl, rfl⟩ dX8_treeOf_58
  exact w_lv [3, 4, 2, 1, 0] rfl (lp_X8_treeOf_23 G 20000 _ _ _ _ _ _ h0 (w_lv [0] rfl K_x3))

set_option maxHeartbeats 4000000 in
set_option maxRecDepth 100000 in
theorem lp_X8_ones_4 {g : CX} {E : EV}   (G : GG g E RX8 cX8_ones 5 (some .int) 0 0 0) : ∀ (n : Nat) (l2 : Int32) (l3 : Int64) (R : Int32), L_X8_ones_4 n l2 l3 = some R → WW g E 5 0 0 [] [(2, .int R)] 22 [] → WW g E 5 0 0 [] [(2, .int l2), (3, .long l3)] 4 [] := by
  intro n
  induction n with
  | zero => intro l2 l3 R h; exact no_some h
  | succ n ih =>
    intro l2 l3 R h K
    rw [L_X8_ones_4] at h
    refine w_lload_n (pc2 := 5) G 1 rfl dX8_ones_4 rfl rfl ?_
    refine w_lconst (pc2 := 6) G dX8_ones_5 k_lconst_0 rfl ?_
    refine w_lcmp (pc2 := 7) G dX8_ones_6 rfl ?_
    refine w_if_eq (tgt := 22) (pc2 := 10) G dX8_ones_7 (by decide) rfl (fun cc => ?_) (fun cc => ?_)
    · replace h := (if_pos cc).symm.trans h
      cases h
      exact w_lv [0] rfl K
    · replace h := (if_neg cc).symm.trans h
      refine w_iinc (pc2 := 13) (lv2 := [(2, .int (l2 + (1 : Int32))), (3, .long l3)]) G 0 rfl dX8_ones_10 k_iconst_1 (Nat.le_of_ble_eq_true rfl) rfl rfl ?_
      refine w_lload_n (pc2 := 14) G 1 rfl dX8_ones_13 rfl rfl ?_
      refine w_lload_n (pc2 := 15) G 1 rfl dX8_ones_14 rfl rfl ?_
      refine w_lconst (pc2 := 16) G dX8_ones_15 k_lconst_1 rfl ?_
      refine w_lsub (pc2 := 17) G dX8_ones_16 rfl ?_
      refine w_land (pc2 := 18) G dX8_ones_17 rfl ?_
      refine w_lstore_n (pc2 := 19) (lv2 := [(3, .long (l3 &&& (l3 - (1 : Int64)))), (2, .int (l2 + (1 : Int32)))]) G dX8_ones_18 rfl (Nat.le_of_ble_eq_true rfl) rfl rfl ?_
      refine w_goto (tgt := 4) G dX8_ones_19 (by decide) ?_
      exact w_lv [1, 0] rfl (ih _ _ _ h K)
set_option maxHeartbeats 4000000 in
set_option maxRecDepth 100000 in
theorem r_X8_ones {l : Launch} {E : EV}  {l0 : Int64} {R : Int32} (h : f_X8_ones l0 = some R) : Ret1 l E yX8_ones cX8_ones 5 (some .int) 0 [] [.long l0] (some (.int R)) [] := by
  refine Ret.intro (lv := [(0, .long l0)]) (by decide) (Nat.le_of_ble_eq_true rfl) rfl ?_
  intro g hgl G hQ
  subst hgl
  rw [f_X8_ones] at h
  refine w_iconst (pc2 := 1) G dX8_ones_0 k_iconst_0 rfl ?_
  refine w_istore_n (pc2 := 2) (lv2 := [(2, .int (0 : Int32)), (0, .long l0)]) G dX8_ones_1 rfl (Nat.le_of_ble_eq_true rfl) rfl rfl ?_
  refine w_lload_n (pc2 := 3) G 1 rfl dX8_ones_2 rfl rfl ?_
  refine w_lstore_n (pc2 := 4) (lv2 := [(3, .long l0), (2, .int (0 : Int32)), (0, .long l0)]) G dX8_ones_3 rfl (Nat.le_of_ble_eq_true rfl) rfl rfl ?_
  obtain ⟨x1, h0, h⟩ := bs h
  have K_x1 : WW g E 5 0 0 [] [(2, .int x1)] 22 [] := by
    clear h0
    refine w_iload_n (pc2 := 23) G 0 rfl dX8_ones_22 rfl rfl ?_
    cases h
    exact w_iret G hQ rfl ⟨rfl, rfl⟩ dX8_ones_23
  exact w_lv [1, 0] rfl (lp_X8_ones_4 G 20000 _ _ _ h0 (w_lv [0] rfl K_x1))

set_option maxHeartbeats 4000000 in
set_option maxRecDepth 100000 in
theorem lp_X8_findOrder_12 {g : CX} {E : EV} {a : Nat → Nat} {o : Nat} {c_is c_sightOne c_sightOther : Nat → Int32} {c_sights : Int32} {c_pad : Nat → Int32} {c_padMany : Int32} {c_act c_which c_key c_other : Nat → Int32} {c_acts : Int32} {c_order : Nat → Int32} {c_digest : Nat → Int64} {c_tall c_had : Nat → Int32} {c_badAct c_badWhy c_alikeAct c_alikeTwo c_work c_isWorked : Int32} {c_trees : Nat → Int64} {c_from c_upTo : Nat → Int32} {c_shape : Nat → Int64} {c_kept c_isKept : Nat → Int32} {c_keptAt c_isWriting : Int32}  (G : GG g E RX8 cX8_findOrder 4 none 3 0 0) : ∀ (n : Nat) (c_seed : Int32) (l1 : Int32) (l2 : Int32) (l3 : Int32) (R : Int32), L_X8_findOrder_12 n c_seed l1 l2 l3 = some R → WW g E 4 0 0 (wX8 E a o c_seed c_is c_sightOne c_sightOther c_sights c_pad c_padMany c_act c_which c_key c_other c_acts c_order c_digest c_tall c_had c_badAct c_badWhy c_alikeAct c_alikeTwo c_work c_isWorked c_trees c_from c_upTo c_shape c_kept c_isKept c_keptAt c_isWriting) [(0, .ref (a o)), (1, .int l1), (2, .int R)] 46 [] → WW g E 4 0 0 (wX8 E a o c_seed c_is c_sightOne c_sightOther c_sights c_pad c_padMany c_act c_which c_key c_other c_acts c_order c_digest c_tall c_had c_badAct c_badWhy c_alikeAct c_alikeTwo c_work c_isWorked c_trees c_from c_upTo c_shape c_kept c_isKept c_keptAt c_isWriting) [(0, .ref (a o)), (1, .int l1), (2, .int l2), (3, .int l3)] 12 [] := by
  intro n
  induction n with
  | zero => intro c_seed l1 l2 l3 R h; exact no_some h
  | succ n ih =>
    intro c_seed l1 l2 l3 R h K
    rw [L_X8_findOrder_12] at h
    refine w_iload_n (pc2 := 13) G 3 rfl dX8_findOrder_12 rfl rfl ?_
    refine w_bipush (pc2 := 15) G dX8_findOrder_13 k_bipush_50 rfl ?_
    refine w_icmp_ge (tgt := 46) (pc2 := 18) G dX8_findOrder_15 (by decide) rfl (fun cc => ?_) (fun cc => ?_)
    · replace h := (if_pos cc).symm.trans h
      cases h
      exact w_lv [0, 1, 2] rfl K
    · replace h := (if_neg cc).symm.trans h
      refine w_iload_n (pc2 := 19) G 2 rfl dX8_findOrder_18 rfl rfl ?_
      refine w_iload_n (pc2 := 20) G 3 rfl dX8_findOrder_19 rfl rfl ?_
      refine w_iload_n (pc2 := 21) G 1 rfl dX8_findOrder_20 rfl rfl ?_
      refine w_icmp_eq (tgt := 37) (pc2 := 24) G dX8_findOrder_21 (by decide) rfl (fun cc => ?_) (fun cc => ?_)
      · replace h := (if_pos cc).symm.trans h
        refine w_iconst (pc2 := 38) G dX8_findOrder_37 k_iconst_0 rfl ?_
        refine w_iadd (pc2 := 39) G dX8_findOrder_38 rfl ?_
        refine w_istore_n (pc2 := 40) (lv2 := [(2, .int (l2 + (0 : Int32))), (0, .ref (a o)), (1, .int l1), (3, .int l3)]) G dX8_findOrder_39 rfl (Nat.le_of_ble_eq_true rfl) rfl rfl ?_
        refine w_iinc (pc2 := 43) (lv2 := [(3, .int (l3 + (1 : Int32))), (2, .int (l2 + (0 : Int32))), (0, .ref (a o)), (1, .int l1)]) G 3 rfl dX8_findOrder_40 k_iconst_1 (Nat.le_of_ble_eq_true rfl) rfl rfl ?_
        refine w_goto (tgt := 12) G dX8_findOrder_43 (by decide) ?_
        exact w_lv [2, 3, 1, 0] rfl (ih _ _ _ _ _ h K)
      · replace h := (if_neg cc).symm.trans h
        refine w_aload_n (pc2 := 25) G 0 rfl dX8_findOrder_24 rfl rfl ?_
        refine w_iload_n (pc2 := 26) G 1 rfl dX8_findOrder_25 rfl rfl ?_
        refine w_iload_n (pc2 := 27) G 3 rfl dX8_findOrder_26 rfl rfl ?_
        obtain ⟨x1, H_x1, h⟩ := bs h
        refine w_cV0 (pc2 := 30) (ws2 := (wX8 E a o c_seed c_is c_sightOne c_sightOther c_sights c_pad c_padMany c_act c_which c_key c_other c_acts c_order c_digest c_tall c_had c_badAct c_badWhy c_alikeAct c_alikeTwo c_work c_isWorked c_trees c_from c_upTo c_shape c_kept c_isKept c_keptAt c_isWriting)) (As := [.int l1, .int l3]) (rest := [.int l2]) G koX8_168 (r_X8_ranks H_x1) (Nat.le_of_ble_eq_true rfl) 8 rfl rfl rfl rfl (Nat.le_of_ble_eq_true rfl) ⟨Nat.zero_le _, Nat.zero_le _⟩ dX8_findOrder_27 rfl rfl ?_
        refine w_if_eq (tgt := 37) (pc2 := 33) G dX8_findOrder_30 (by decide) rfl (fun cc => ?_) (fun cc => ?_)
        · replace h := (if_pos cc).symm.trans h
          refine w_iconst (pc2 := 38) G dX8_findOrder_37 k_iconst_0 rfl ?_
          refine w_iadd (pc2 := 39) G dX8_findOrder_38 rfl ?_
          refine w_istore_n (pc2 := 40) (lv2 := [(2, .int (l2 + (0 : Int32))), (0, .ref (a o)), (1, .int l1), (3, .int l3)]) G dX8_findOrder_39 rfl (Nat.le_of_ble_eq_true rfl) rfl rfl ?_
          refine w_iinc (pc2 := 43) (lv2 := [(3, .int (l3 + (1 : Int32))), (2, .int (l2 + (0 : Int32))), (0, .ref (a o)), (1, .int l1)]) G 3 rfl dX8_findOrder_40 k_iconst_1 (Nat.le_of_ble_eq_true rfl) rfl rfl ?_
          refine w_goto (tgt := 12) G dX8_findOrder_43 (by decide) ?_
          exact w_lv [2, 3, 1, 0] rfl (ih _ _ _ _ _ h K)
        · replace h := (if_neg cc).symm.trans h
          refine w_iconst (pc2 := 34) G dX8_findOrder_33 k_iconst_1 rfl ?_
          refine w_goto (tgt := 38) G dX8_findOrder_34 (by decide) ?_
          refine w_iadd (pc2 := 39) G dX8_findOrder_38 rfl ?_
          refine w_istore_n (pc2 := 40) (lv2 := [(2, .int (l2 + (1 : Int32))), (0, .ref (a o)), (1, .int l1), (3, .int l3)]) G dX8_findOrder_39 rfl (Nat.le_of_ble_eq_true rfl) rfl rfl ?_
          refine w_iinc (pc2 := 43) (lv2 := [(3, .int (l3 + (1 : Int32))), (2, .int (l2 + (1 : Int32))), (0, .ref (a o)), (1, .int l1)]) G 3 rfl dX8_findOrder_40 k_iconst_1 (Nat.le_of_ble_eq_true rfl) rfl rfl ?_
          refine w_goto (tgt := 12) G dX8_findOrder_43 (by decide) ?_
          exact w_lv [2, 3, 1, 0] rfl (ih _ _ _ _ _ h K)
set_option maxHeartbeats 4000000 in
set_option maxRecDepth 100000 in
theorem lp_X8_findOrder_2 {g : CX} {E : EV} {a : Nat → Nat} {o : Nat} {c_is c_sightOne c_sightOther : Nat → Int32} {c_sights : Int32} {c_pad : Nat → Int32} {c_padMany : Int32} {c_act c_which c_key c_other : Nat → Int32} {c_acts : Int32} {c_digest : Nat → Int64} {c_tall c_had : Nat → Int32} {c_badAct c_badWhy c_alikeAct c_alikeTwo c_work c_isWorked : Int32} {c_trees : Nat → Int64} {c_from c_upTo : Nat → Int32} {c_shape : Nat → Int64} {c_kept c_isKept : Nat → Int32} {c_keptAt c_isWriting : Int32}  (G : GG g E RX8 cX8_findOrder 4 none 3 0 0) : ∀ (n : Nat) (c_seed : Int32) (c_order : Nat → Int32) (l1 : Int32) (R : (Nat → Int32)), L_X8_findOrder_2 n c_seed c_order l1 = some R → WW g E 4 0 0 (wX8 E a o c_seed c_is c_sightOne c_sightOther c_sights c_pad c_padMany c_act c_which c_key c_other c_acts R c_digest c_tall c_had c_badAct c_badWhy c_alikeAct c_alikeTwo c_work c_isWorked c_trees c_from c_upTo c_shape c_kept c_isKept c_keptAt c_isWriting) [] 59 [] → WW g E 4 0 0 (wX8 E a o c_seed c_is c_sightOne c_sightOther c_sights c_pad c_padMany c_act c_which c_key c_other c_acts c_order c_digest c_tall c_had c_badAct c_badWhy c_alikeAct c_alikeTwo c_work c_isWorked c_trees c_from c_upTo c_shape c_kept c_isKept c_keptAt c_isWriting) [(0, .ref (a o)), (1, .int l1)] 2 [] := by
  intro n
  induction n with
  | zero => intro c_seed c_order l1 R h; exact no_some h
  | succ n ih =>
    intro c_seed c_order l1 R h K
    rw [L_X8_findOrder_2] at h
    refine w_iload_n (pc2 := 3) G 1 rfl dX8_findOrder_2 rfl rfl ?_
    refine w_bipush (pc2 := 5) G dX8_findOrder_3 k_bipush_50 rfl ?_
    refine w_icmp_ge (tgt := 59) (pc2 := 8) G dX8_findOrder_5 (by decide) rfl (fun cc => ?_) (fun cc => ?_)
    · replace h := (if_pos cc).symm.trans h
      cases h
      exact w_lv [] rfl K
    · replace h := (if_neg cc).symm.trans h
      refine w_iconst (pc2 := 9) G dX8_findOrder_8 k_iconst_0 rfl ?_
      refine w_istore_n (pc2 := 10) (lv2 := [(2, .int (0 : Int32)), (0, .ref (a o)), (1, .int l1)]) G dX8_findOrder_9 rfl (Nat.le_of_ble_eq_true rfl) rfl rfl ?_
      refine w_iconst (pc2 := 11) G dX8_findOrder_10 k_iconst_0 rfl ?_
      refine w_istore_n (pc2 := 12) (lv2 := [(3, .int (0 : Int32)), (2, .int (0 : Int32)), (0, .ref (a o)), (1, .int l1)]) G dX8_findOrder_11 rfl (Nat.le_of_ble_eq_true rfl) rfl rfl ?_
      obtain ⟨x1, h0, h⟩ := bs h
      have K_x1 : WW g E 4 0 0 (wX8 E a o c_seed c_is c_sightOne c_sightOther c_sights c_pad c_padMany c_act c_which c_key c_other c_acts c_order c_digest c_tall c_had c_badAct c_badWhy c_alikeAct c_alikeTwo c_work c_isWorked c_trees c_from c_upTo c_shape c_kept c_isKept c_keptAt c_isWriting) [(0, .ref (a o)), (1, .int l1), (2, .int x1)] 46 [] := by
        clear h0
        refine w_aload_n (pc2 := 47) G 0 rfl dX8_findOrder_46 rfl rfl ?_
        refine w_get (pc2 := 50) G foX8_34 0 rfl rfl dX8_findOrder_47 rfl ?_
        refine w_iload_n (pc2 := 51) G 2 rfl dX8_findOrder_50 rfl rfl ?_
        refine w_iload_n (pc2 := 52) G 1 rfl dX8_findOrder_51 rfl rfl ?_
        obtain ⟨f2, H_f2, h⟩ := bs h
        refine w_iasto (pc2 := 53) (ws2 := (wX8 E a o c_seed c_is c_sightOne c_sightOther c_sights c_pad c_padMany c_act c_which c_key c_other c_acts f2 c_digest c_tall c_had c_badAct c_badWhy c_alikeAct c_alikeTwo c_work c_isWorked c_trees c_from c_upTo c_shape c_kept c_isKept c_keptAt c_isWriting)) G 9 rfl H_f2 rfl dX8_findOrder_52 rfl ?_
        refine w_iinc (pc2 := 56) (lv2 := [(1, .int (l1 + (1 : Int32))), (0, .ref (a o)), (2, .int x1)]) G 1 rfl dX8_findOrder_53 k_iconst_1 (Nat.le_of_ble_eq_true rfl) rfl rfl ?_
        refine w_goto (tgt := 2) G dX8_findOrder_56 (by decide) ?_
        exact w_lv [1, 0] rfl (ih _ _ _ _ h K)
      exact w_lv [2, 3, 1, 0] rfl (lp_X8_findOrder_12 G 20000 _ _ _ _ _ h0 (w_lv [0, 1, 2] rfl K_x1))
set_option maxHeartbeats 4000000 in
set_option maxRecDepth 100000 in
theorem r_X8_findOrder {l : Launch} {E : EV} {a : Nat → Nat} {o : Nat} {c_seed : Int32} {c_is c_sightOne c_sightOther : Nat → Int32} {c_sights : Int32} {c_pad : Nat → Int32} {c_padMany : Int32} {c_act c_which c_key c_other : Nat → Int32} {c_acts : Int32} {c_order : Nat → Int32} {c_digest : Nat → Int64} {c_tall c_had : Nat → Int32} {c_badAct c_badWhy c_alikeAct c_alikeTwo c_work c_isWorked : Int32} {c_trees : Nat → Int64} {c_from c_upTo : Nat → Int32} {c_shape : Nat → Int64} {c_kept c_isKept : Nat → Int32} {c_keptAt c_isWriting : Int32}  {R : (Nat → Int32)} (h : f_X8_findOrder c_seed c_order = some R) : Ret1 l E yX8_findOrder cX8_findOrder 4 none 3 (wX8 E a o c_seed c_is c_sightOne c_sightOther c_sights c_pad c_padMany c_act c_which c_key c_other c_acts c_order c_digest c_tall c_had c_badAct c_badWhy c_alikeAct c_alikeTwo c_work c_isWorked c_trees c_from c_upTo c_shape c_kept c_isKept c_keptAt c_isWriting) [.ref (a o)] none (wX8 E a o c_seed c_is c_sightOne c_sightOther c_sights c_pad c_padMany c_act c_which c_key c_other c_acts R c_digest c_tall c_had c_badAct c_badWhy c_alikeAct c_alikeTwo c_work c_isWorked c_trees c_from c_upTo c_shape c_kept c_isKept c_keptAt c_isWriting) := by
  refine Ret.intro (lv := [(0, .ref (a o))]) (by decide) (Nat.le_of_ble_eq_true rfl) rfl ?_
  intro g hgl G hQ
  subst hgl
  rw [f_X8_findOrder] at h
  refine w_iconst (pc2 := 1) G dX8_findOrder_0 k_iconst_0 rfl ?_
  refine w_istore_n (pc2 := 2) (lv2 := [(1, .int (0 : Int32)), (0, .ref (a o))]) G dX8_findOrder_1 rfl (Nat.le_of_ble_eq_true rfl) rfl rfl ?_
  obtain ⟨x1, h0, h⟩ := bs h
  have K_x1 : WW g E 4 0 0 (wX8 E a o c_seed c_is c_sightOne c_sightOther c_sights c_pad c_padMany c_act c_which c_key c_other c_acts x1 c_digest c_tall c_had c_badAct c_badWhy c_alikeAct c_alikeTwo c_work c_isWorked c_trees c_from c_upTo c_shape c_kept c_isKept c_keptAt c_isWriting) [] 59 [] := by
    clear h0
    cases h
    exact w_vret G hQ rfl ⟨rfl, rfl⟩ dX8_findOrder_59
  exact w_lv [1, 0] rfl (lp_X8_findOrder_2 G 20000 _ _ _ _ h0 (w_lv [] rfl K_x1))

set_option maxHeartbeats 4000000 in
set_option maxRecDepth 100000 in
theorem r_X8_findOne {l : Launch} {E : EV} {a : Nat → Nat} {o : Nat} {c_seed : Int32} {c_is c_sightOne c_sightOther : Nat → Int32} {c_sights : Int32} {c_pad : Nat → Int32} {c_padMany : Int32} {c_act c_which c_key c_other : Nat → Int32} {c_acts : Int32} {c_order : Nat → Int32} {c_digest : Nat → Int64} {c_tall c_had : Nat → Int32} {c_badAct c_badWhy c_alikeAct c_alikeTwo c_work c_isWorked : Int32} {c_trees : Nat → Int64} {c_from c_upTo : Nat → Int32} {c_shape : Nat → Int64} {c_kept c_isKept : Nat → Int32} {c_keptAt c_isWriting : Int32} {l1 : Int32} {l2 : Int32} {l3 : Int32} {l4 : Int32} {R : (Nat → Int64) × (Nat → Int32)} (h : f_X8_findOne c_seed c_is c_digest c_tall l1 l2 l3 l4 = some R) : Ret1 l E yX8_findOne cX8_findOne 13 none 4 (wX8 E a o c_seed c_is c_sightOne c_sightOther c_sights c_pad c_padMany c_act c_which c_key c_other c_acts c_order c_digest c_tall c_had c_badAct c_badWhy c_alikeAct c_alikeTwo c_work c_isWorked c_trees c_from c_upTo c_shape c_kept c_isKept c_keptAt c_isWriting) [.ref (a o), .int l1, .int l2, .int l3, .int l4] none (wX8 E a o c_seed c_is c_sightOne c_sightOther c_sights c_pad c_padMany c_act c_which c_key c_other c_acts c_order R.1 R.2 c_had c_badAct c_badWhy c_alikeAct c_alikeTwo c_work c_isWorked c_trees c_from c_upTo c_shape c_kept c_isKept c_keptAt c_isWriting) := by
  refine Ret.intro (lv := [(0, .ref (a o)), (1, .int l1), (2, .int l2), (3, .int l3), (4, .int l4)]) (by decide) (Nat.le_of_ble_eq_true rfl) rfl ?_
  intro g hgl G hQ
  subst hgl
  rw [f_X8_findOne] at h
  refine w_aload_n (pc2 := 1) G 0 rfl dX8_findOne_0 rfl rfl ?_
  refine w_iload_n (pc2 := 2) G 1 rfl dX8_findOne_1 rfl rfl ?_
  refine w_aload_n (pc2 := 3) G 0 rfl dX8_findOne_2 rfl rfl ?_
  refine w_iload_n (pc2 := 4) G 1 rfl dX8_findOne_3 rfl rfl ?_
  refine w_iload_n (pc2 := 5) G 2 rfl dX8_findOne_4 rfl rfl ?_
  refine w_iload_n (pc2 := 6) G 3 rfl dX8_findOne_5 rfl rfl ?_
  obtain ⟨x1, H_x1, h⟩ := bs h
  refine w_cV0 (pc2 := 9) (ws2 := (wX8 E a o c_seed c_is c_sightOne c_sightOther c_sights c_pad c_padMany c_act c_which c_key c_other c_acts c_order c_digest c_tall c_had c_badAct c_badWhy c_alikeAct c_alikeTwo c_work c_isWorked c_trees c_from c_upTo c_shape c_kept c_isKept c_keptAt c_isWriting)) (As := [.int l1, .int l2, .int l3]) (rest := [.int l1, .ref (a o)]) G koX8_174 (r_X8_below H_x1) (Nat.le_of_ble_eq_true rfl) 8 rfl rfl rfl rfl (Nat.le_of_ble_eq_true rfl) ⟨Nat.zero_le _, Nat.zero_le _⟩ dX8_findOne_6 rfl rfl ?_
  refine w_iconst (pc2 := 10) G dX8_findOne_9 k_iconst_1 rfl ?_
  refine w_iadd (pc2 := 11) G dX8_findOne_10 rfl ?_
  refine w_iload_n (pc2 := 12) G 2 rfl dX8_findOne_11 rfl rfl ?_
  refine w_iconst (pc2 := 13) G dX8_findOne_12 k_iconst_1 rfl ?_
  refine w_isub (pc2 := 14) G dX8_findOne_13 rfl ?_
  obtain ⟨x2, H_x2, h⟩ := bs h
  refine w_cV0 (pc2 := 17) (ws2 := (wX8 E a o c_seed c_is c_sightOne c_sightOther c_sights c_pad c_padMany c_act c_which c_key c_other c_acts c_order c_digest c_tall c_had c_badAct c_badWhy c_alikeAct c_alikeTwo c_work c_isWorked c_trees c_from c_upTo c_shape c_kept c_isKept c_keptAt c_isWriting)) (As := [.int l1, .int (x1 + (1 : Int32)), .int (l2 - (1 : Int32))]) (rest := []) G koX8_177 (r_X8_rootOf H_x2) (Nat.le_of_ble_eq_true rfl) 8 rfl rfl rfl rfl (Nat.le_of_ble_eq_true rfl) ⟨Nat.zero_le _, Nat.zero_le _⟩ dX8_findOne_14 rfl rfl ?_
  refine w_istore (pc2 := 19) (lv2 := [(5, .int x2), (0, .ref (a o)), (1, .int l1), (2, .int l2), (3, .int l3), (4, .int l4)]) G dX8_findOne_17 (Nat.le_of_ble_eq_true rfl) rfl rfl ?_
  refine w_aload_n (pc2 := 20) G 1 rfl dX8_findOne_19 rfl rfl ?_
  refine w_iload_n (pc2 := 21) G 2 rfl dX8_findOne_20 rfl rfl ?_
  refine w_iload_n (pc2 := 22) G 3 rfl dX8_findOne_21 rfl rfl ?_
  refine w_iconst (pc2 := 23) G dX8_findOne_22 k_iconst_1 rfl ?_
  refine w_iadd (pc2 := 24) G dX8_findOne_23 rfl ?_
  refine w_aload_n (pc2 := 25) G 1 rfl dX8_findOne_24 rfl rfl ?_
  refine w_iload_n (pc2 := 26) G 2 rfl dX8_findOne_25 rfl rfl ?_
  refine w_iload_n (pc2 := 27) G 3 rfl dX8_findOne_26 rfl rfl ?_
  refine w_iload (pc2 := 29) G 5 rfl dX8_findOne_27 rfl ?_
  obtain ⟨x3, H_x3, h⟩ := bs h
  refine w_cV0 (pc2 := 32) (ws2 := (wX8 E a o c_seed c_is c_sightOne c_sightOther c_sights c_pad c_padMany c_act c_which c_key c_other c_acts c_order c_digest c_tall c_had c_badAct c_badWhy c_alikeAct c_alikeTwo c_work c_isWorked c_trees c_from c_upTo c_shape c_kept c_isKept c_keptAt c_isWriting)) (As := [.int l1, .int l2, .int l4]) (rest := [.int (l2 + (1 : Int32)), .int l1, .ref (a o)]) G koX8_171 (r_X8_beyond H_x3) (Nat.le_of_ble_eq_true rfl) 8 rfl rfl rfl rfl (Nat.le_of_ble_eq_true rfl) ⟨Nat.zero_le _, Nat.zero_le _⟩ dX8_findOne_29 rfl rfl ?_
  refine w_iconst (pc2 := 33) G dX8_findOne_32 k_iconst_1 rfl ?_
  refine w_isub (pc2 := 34) G dX8_findOne_33 rfl ?_
  obtain ⟨x4, H_x4, h⟩ := bs h
  refine w_cV0 (pc2 := 37) (ws2 := (wX8 E a o c_seed c_is c_sightOne c_sightOther c_sights c_pad c_padMany c_act c_which c_key c_other c_acts c_order c_digest c_tall c_had c_badAct c_badWhy c_alikeAct c_alikeTwo c_work c_isWorked c_trees c_from c_upTo c_shape c_kept c_isKept c_keptAt c_isWriting)) (As := [.int l1, .int (l2 + (1 : Int32)), .int (x3 - (1 : Int32))]) (rest := []) G koX8_177 (r_X8_rootOf H_x4) (Nat.le_of_ble_eq_true rfl) 8 rfl rfl rfl rfl (Nat.le_of_ble_eq_true rfl) ⟨Nat.zero_le _, Nat.zero_le _⟩ dX8_findOne_34 rfl rfl ?_
  refine w_istore (pc2 := 39) (lv2 := [(6, .int x4), (5, .int x2), (0, .ref (a o)), (1, .int l1), (2, .int l2), (3, .int l3), (4, .int l4)]) G dX8_findOne_37 (Nat.le_of_ble_eq_true rfl) rfl rfl ?_
  refine w_iload (pc2 := 41) G 1 rfl dX8_findOne_39 rfl ?_
  obtain ⟨x6, h0, h⟩ := bs h
  have K_x6 : WW g E 13 0 0 (wX8 E a o c_seed c_is c_sightOne c_sightOther c_sights c_pad c_padMany c_act c_which c_key c_other c_acts c_order c_digest c_tall c_had c_badAct c_badWhy c_alikeAct c_alikeTwo c_work c_isWorked c_trees c_from c_upTo c_shape c_kept c_isKept c_keptAt c_isWriting) [(6, .int x4), (5, .int x2), (0, .ref (a o)), (2, .int l2)] 55 [.long x6] := by
    clear h0
    refine w_lstore (pc2 := 57) (lv2 := [(7, .long x6), (6, .int x4), (5, .int x2), (0, .ref (a o)), (2, .int l2)]) G dX8_findOne_55 (Nat.le_of_ble_eq_true rfl) rfl rfl ?_
    refine w_iload (pc2 := 59) G 1 rfl dX8_findOne_57 rfl ?_
    obtain ⟨x8, h0, h⟩ := bs h
    have K_x8 : WW g E 13 0 0 (wX8 E a o c_seed c_is c_sightOne c_sightOther c_sights c_pad c_padMany c_act c_which c_key c_other c_acts c_order c_digest c_tall c_had c_badAct c_badWhy c_alikeAct c_alikeTwo c_work c_isWorked c_trees c_from c_upTo c_shape c_kept c_isKept c_keptAt c_isWriting) [(7, .long x6), (6, .int x4), (5, .int x2), (0, .ref (a o)), (2, .int l2)] 73 [.long x8] := by
      clear h0
      refine w_lstore (pc2 := 75) (lv2 := [(9, .long x8), (7, .long x6), (6, .int x4), (5, .int x2), (0, .ref (a o)), (2, .int l2)]) G dX8_findOne_73 (Nat.le_of_ble_eq_true rfl) rfl rfl ?_
      refine w_iload (pc2 := 77) G 3 rfl dX8_findOne_75 rfl ?_
      obtain ⟨x10, h0, h⟩ := bs h
      have K_x10 : WW g E 13 0 0 (wX8 E a o c_seed c_is c_sightOne c_sightOther c_sights c_pad c_padMany c_act c_which c_key c_other c_acts c_order c_digest c_tall c_had c_badAct c_badWhy c_alikeAct c_alikeTwo c_work c_isWorked c_trees c_from c_upTo c_shape c_kept c_isKept c_keptAt c_isWriting) [(9, .long x8), (7, .long x6), (6, .int x4), (0, .ref (a o)), (2, .int l2)] 91 [.int x10] := by
        clear h0
        refine w_istore (pc2 := 93) (lv2 := [(11, .int x10), (9, .long x8), (7, .long x6), (6, .int x4), (0, .ref (a o)), (2, .int l2)]) G dX8_findOne_91 (Nat.le_of_ble_eq_true rfl) rfl rfl ?_
        refine w_iload (pc2 := 95) G 3 rfl dX8_findOne_93 rfl ?_
        obtain ⟨x12, h0, h⟩ := bs h
        have K_x12 : WW g E 13 0 0 (wX8 E a o c_seed c_is c_sightOne c_sightOther c_sights c_pad c_padMany c_act c_which c_key c_other c_acts c_order c_digest c_tall c_had c_badAct c_badWhy c_alikeAct c_alikeTwo c_work c_isWorked c_trees c_from c_upTo c_shape c_kept c_isKept c_keptAt c_isWriting) [(11, .int x10), (9, .long x8), (7, .long x6), (0, .ref (a o)), (2, .int l2)] 109 [.int x12] := by
          clear h0
          refine w_istore (pc2 := 111) (lv2 := [(12, .int x12), (11, .int x10), (9, .long x8), (7, .long x6), (0, .ref (a o)), (2, .int l2)]) G dX8_findOne_109 (Nat.le_of_ble_eq_true rfl) rfl rfl ?_
          refine w_aload_n (pc2 := 112) G 4 rfl dX8_findOne_111 rfl rfl ?_
          refine w_get (pc2 := 115) G foX8_37 0 rfl rfl dX8_findOne_112 rfl ?_
          refine w_iload_n (pc2 := 116) G 5 rfl dX8_findOne_115 rfl rfl ?_
          refine w_lconst (pc2 := 117) G dX8_findOne_116 k_lconst_1 rfl ?_
          refine w_ldc2 (pc2 := 120) G wd_266 dX8_findOne_117 rfl ?_
          refine w_lload (pc2 := 122) G 3 rfl dX8_findOne_120 rfl ?_
          refine w_lmul (pc2 := 123) G dX8_findOne_122 rfl ?_
          refine w_ldc2 (pc2 := 126) G wd_216 dX8_findOne_123 rfl ?_
          refine w_lload (pc2 := 128) G 2 rfl dX8_findOne_126 rfl ?_
          refine w_lmul (pc2 := 129) G dX8_findOne_128 rfl ?_
          refine w_ladd (pc2 := 130) G dX8_findOne_129 rfl ?_
          refine w_ldc2 (pc2 := 133) G wd_267 dX8_findOne_130 rfl ?_
          refine w_iload_n (pc2 := 134) G 5 rfl dX8_findOne_133 rfl rfl ?_
          refine w_iconst (pc2 := 135) G dX8_findOne_134 k_iconst_1 rfl ?_
          refine w_iadd (pc2 := 136) G dX8_findOne_135 rfl ?_
          refine w_i2l (pc2 := 137) G dX8_findOne_136 rfl ?_
          refine w_lmul (pc2 := 138) G dX8_findOne_137 rfl ?_
          refine w_ladd (pc2 := 139) G dX8_findOne_138 rfl ?_
          refine w_ldc2 (pc2 := 142) G wd_268 dX8_findOne_139 rfl ?_
          refine w_lrem (pc2 := 143) G dX8_findOne_142 (by decide) rfl ?_
          refine w_ladd (pc2 := 144) G dX8_findOne_143 rfl ?_
          obtain ⟨f13, H_f13, h⟩ := bs h
          refine w_lasto (pc2 := 145) (ws2 := (wX8 E a o c_seed c_is c_sightOne c_sightOther c_sights c_pad c_padMany c_act c_which c_key c_other c_acts c_order f13 c_tall c_had c_badAct c_badWhy c_alikeAct c_alikeTwo c_work c_isWorked c_trees c_from c_upTo c_shape c_kept c_isKept c_keptAt c_isWriting)) G 10 rfl H_f13 rfl dX8_findOne_144 rfl ?_
          refine w_aload_n (pc2 := 146) G 4 rfl dX8_findOne_145 rfl rfl ?_
          refine w_get (pc2 := 149) G foX8_41 0 rfl rfl dX8_findOne_146 rfl ?_
          refine w_iload_n (pc2 := 150) G 5 rfl dX8_findOne_149 rfl rfl ?_
          refine w_iconst (pc2 := 151) G dX8_findOne_150 k_iconst_1 rfl ?_
          refine w_iload (pc2 := 153) G 1 rfl dX8_findOne_151 rfl ?_
          refine w_iload (pc2 := 155) G 0 rfl dX8_findOne_153 rfl ?_
          refine w_icmp_le (tgt := 163) (pc2 := 158) G dX8_findOne_155 (by decide) rfl (fun cc => ?_) (fun cc => ?_)
          · replace h := (if_pos cc).symm.trans h
            refine w_iload (pc2 := 165) G 0 rfl dX8_findOne_163 rfl ?_
            refine w_iadd (pc2 := 166) G dX8_findOne_165 rfl ?_
            obtain ⟨f14, H_f14, h⟩ := bs h
            refine w_iasto (pc2 := 167) (ws2 := (wX8 E a o c_seed c_is c_sightOne c_sightOther c_sights c_pad c_padMany c_act c_which c_key c_other c_acts c_order f13 f14 c_had c_badAct c_badWhy c_alikeAct c_alikeTwo c_work c_isWorked c_trees c_from c_upTo c_shape c_kept c_isKept c_keptAt c_isWriting)) G 11 rfl H_f14 rfl dX8_findOne_166 rfl ?_
            cases h
            exact w_vret G hQ rfl ⟨rfl, rfl⟩ dX8_findOne_167
          · replace h := (if_neg cc).symm.trans h
            refine w_iload (pc2 := 160) G 1 rfl dX8_findOne_158 rfl ?_
            refine w_goto (tgt := 165) G dX8_findOne_160 (by decide) ?_
            refine w_iadd (pc2 := 166) G dX8_findOne_165 rfl ?_
            obtain ⟨f15, H_f15, h⟩ := bs h
            refine w_iasto (pc2 := 167) (ws2 := (wX8 E a o c_seed c_is c_sightOne c_sightOther c_sights c_pad c_padMany c_act c_which c_key c_other c_acts c_order f13 f15 c_had c_badAct c_badWhy c_alikeAct c_alikeTwo c_work c_isWorked c_trees c_from c_upTo c_shape c_kept c_isKept c_keptAt c_isWriting)) G 11 rfl H_f15 rfl dX8_findOne_166 rfl ?_
            cases h
            exact w_vret G hQ rfl ⟨rfl, rfl⟩ dX8_findOne_167
        replace h := h0
        clear h0
        refine w_if_ge (tgt := 102) (pc2 := 98) G dX8_findOne_95 (by decide) rfl (fun cc => ?_) (fun cc => ?_)
        · replace h := (if_pos cc).symm.trans h
          refine w_aload_n (pc2 := 103) G 4 rfl dX8_findOne_102 rfl rfl ?_
          refine w_get (pc2 := 106) G foX8_41 0 rfl rfl dX8_findOne_103 rfl ?_
          refine w_iload (pc2 := 108) G 3 rfl dX8_findOne_106 rfl ?_
          obtain ⟨v11, H_v11, h⟩ := bs h
          refine w_ialdo (pc2 := 109) G 11 rfl H_v11 dX8_findOne_108 rfl ?_
          cases h
          exact w_lv [0, 1, 2, 4, 5] rfl K_x12
        · replace h := (if_neg cc).symm.trans h
          refine w_iconst (pc2 := 99) G dX8_findOne_98 k_iconst_0 rfl ?_
          refine w_goto (tgt := 109) G dX8_findOne_99 (by decide) ?_
          cases h
          exact w_lv [0, 1, 2, 4, 5] rfl K_x12
      replace h := h0
      clear h0
      refine w_if_ge (tgt := 84) (pc2 := 80) G dX8_findOne_77 (by decide) rfl (fun cc => ?_) (fun cc => ?_)
      · replace h := (if_pos cc).symm.trans h
        refine w_aload_n (pc2 := 85) G 4 rfl dX8_findOne_84 rfl rfl ?_
        refine w_get (pc2 := 88) G foX8_41 0 rfl rfl dX8_findOne_85 rfl ?_
        refine w_iload (pc2 := 90) G 3 rfl dX8_findOne_88 rfl ?_
        obtain ⟨v9, H_v9, h⟩ := bs h
        refine w_ialdo (pc2 := 91) G 11 rfl H_v9 dX8_findOne_90 rfl ?_
        cases h
        exact w_lv [0, 1, 2, 4, 5] rfl K_x10
      · replace h := (if_neg cc).symm.trans h
        refine w_iconst (pc2 := 81) G dX8_findOne_80 k_iconst_0 rfl ?_
        refine w_goto (tgt := 91) G dX8_findOne_81 (by decide) ?_
        cases h
        exact w_lv [0, 1, 2, 4, 5] rfl K_x10
    replace h := h0
    clear h0
    refine w_if_ge (tgt := 66) (pc2 := 62) G dX8_findOne_59 (by decide) rfl (fun cc => ?_) (fun cc => ?_)
    · replace h := (if_pos cc).symm.trans h
      refine w_aload_n (pc2 := 67) G 3 rfl dX8_findOne_66 rfl rfl ?_
      refine w_get (pc2 := 70) G foX8_37 0 rfl rfl dX8_findOne_67 rfl ?_
      refine w_iload (pc2 := 72) G 1 rfl dX8_findOne_70 rfl ?_
      obtain ⟨v7, H_v7, h⟩ := bs h
      refine w_laldo (pc2 := 73) G 10 rfl H_v7 dX8_findOne_72 rfl ?_
      cases h
      exact w_lv [0, 1, 2, 3, 4] rfl K_x8
    · replace h := (if_neg cc).symm.trans h
      refine w_lconst (pc2 := 63) G dX8_findOne_62 k_lconst_0 rfl ?_
      refine w_goto (tgt := 73) G dX8_findOne_63 (by decide) ?_
      cases h
      exact w_lv [0, 1, 2, 3, 4] rfl K_x8
  replace h := h0
  clear h0
  refine w_if_ge (tgt := 48) (pc2 := 44) G dX8_findOne_41 (by decide) rfl (fun cc => ?_) (fun cc => ?_)
  · replace h := (if_pos cc).symm.trans h
    refine w_aload_n (pc2 := 49) G 2 rfl dX8_findOne_48 rfl rfl ?_
    refine w_get (pc2 := 52) G foX8_37 0 rfl rfl dX8_findOne_49 rfl ?_
    refine w_iload (pc2 := 54) G 1 rfl dX8_findOne_52 rfl ?_
    obtain ⟨v5, H_v5, h⟩ := bs h
    refine w_laldo (pc2 := 55) G 10 rfl H_v5 dX8_findOne_54 rfl ?_
    cases h
    exact w_lv [0, 1, 2, 4] rfl K_x6
  · replace h := (if_neg cc).symm.trans h
    refine w_lconst (pc2 := 45) G dX8_findOne_44 k_lconst_0 rfl ?_
    refine w_goto (tgt := 55) G dX8_findOne_45 (by decide) ?_
    cases h
    exact w_lv [0, 1, 2, 4] rfl K_x6
