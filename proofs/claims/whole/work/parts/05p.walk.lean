set_option maxHeartbeats 4000000 in
set_option maxRecDepth 100000 in
theorem r_X8_done {l : Launch} {E : EV} {a : Nat → Nat} {o : Nat} {c_seed : Int32} {c_is c_sightOne c_sightOther : Nat → Int32} {c_sights : Int32} {c_pad : Nat → Int32} {c_padMany : Int32} {c_act c_which c_key c_other : Nat → Int32} {c_acts : Int32} {c_order : Nat → Int32} {c_digest : Nat → Int64} {c_tall c_had : Nat → Int32} {c_badAct c_badWhy c_alikeAct c_alikeTwo c_work c_isWorked : Int32} {c_trees : Nat → Int64} {c_from c_upTo : Nat → Int32} {c_shape : Nat → Int64} {c_kept c_isKept : Nat → Int32} {c_keptAt c_isWriting : Int32}  {R : Int32 × Int32 × (Nat → Int32) × Int32 × (Nat → Int32) × (Nat → Int32) × (Nat → Int32) × (Nat → Int32) × Int32 × (Nat → Int32) × Int32 × Int32 × Int32 × Int32 × Int32 × Int32 × (Nat → Int64)} (h : f_X8_done c_seed c_is c_pad c_padMany c_act c_which c_key c_other c_acts c_had c_badAct c_badWhy c_alikeAct c_alikeTwo c_work c_isWorked c_trees = some R) : Ret1 l E yX8_done cX8_done 2 (some .int) 9 (wX8 E a o c_seed c_is c_sightOne c_sightOther c_sights c_pad c_padMany c_act c_which c_key c_other c_acts c_order c_digest c_tall c_had c_badAct c_badWhy c_alikeAct c_alikeTwo c_work c_isWorked c_trees c_from c_upTo c_shape c_kept c_isKept c_keptAt c_isWriting) [.ref (a o)] (some (.int R.1)) (wX8 E a o R.2.1 R.2.2.1 c_sightOne c_sightOther c_sights c_pad R.2.2.2.1 R.2.2.2.2.1 R.2.2.2.2.2.1 R.2.2.2.2.2.2.1 R.2.2.2.2.2.2.2.1 R.2.2.2.2.2.2.2.2.1 c_order c_digest c_tall R.2.2.2.2.2.2.2.2.2.1 R.2.2.2.2.2.2.2.2.2.2.1 R.2.2.2.2.2.2.2.2.2.2.2.1 R.2.2.2.2.2.2.2.2.2.2.2.2.1 R.2.2.2.2.2.2.2.2.2.2.2.2.2.1 R.2.2.2.2.2.2.2.2.2.2.2.2.2.2.1 R.2.2.2.2.2.2.2.2.2.2.2.2.2.2.2.1 R.2.2.2.2.2.2.2.2.2.2.2.2.2.2.2.2 c_from c_upTo c_shape c_kept c_isKept c_keptAt c_isWriting) := by
  refine Ret.intro (lv := [(0, .ref (a o))]) (by decide) (Nat.le_of_ble_eq_true rfl) rfl ?_
  intro g hgl G hQ
  subst hgl
  rw [f_X8_done] at h
  refine w_aload_n (pc2 := 1) G 0 rfl dX8_done_0 rfl rfl ?_
  refine w_iconst (pc2 := 2) G dX8_done_1 k_iconst_0 rfl ?_
  obtain ⟨x1, H_x1, h⟩ := bs h
  refine w_cV0 (pc2 := 5) (ws2 := (wX8 E a o x1.2.1 x1.2.2.1 c_sightOne c_sightOther c_sights c_pad c_padMany x1.2.2.2.1 x1.2.2.2.2.1 x1.2.2.2.2.2.1 x1.2.2.2.2.2.2.1 x1.2.2.2.2.2.2.2.1 c_order c_digest c_tall x1.2.2.2.2.2.2.2.2.1 x1.2.2.2.2.2.2.2.2.2.1 x1.2.2.2.2.2.2.2.2.2.2.1 x1.2.2.2.2.2.2.2.2.2.2.2.1 x1.2.2.2.2.2.2.2.2.2.2.2.2.1 x1.2.2.2.2.2.2.2.2.2.2.2.2.2.1 x1.2.2.2.2.2.2.2.2.2.2.2.2.2.2.1 x1.2.2.2.2.2.2.2.2.2.2.2.2.2.2.2 c_from c_upTo c_shape c_kept c_isKept c_keptAt c_isWriting)) (As := [.int (0 : Int32)]) (rest := []) G koX8_253 (r_X8_refusal H_x1) (Nat.le_of_ble_eq_true rfl) 8 rfl rfl rfl rfl (Nat.le_of_ble_eq_true rfl) ⟨Nat.zero_le _, Nat.zero_le _⟩ dX8_done_2 rfl rfl ?_
  refine w_istore_n (pc2 := 6) (lv2 := [(1, .int x1.1), (0, .ref (a o))]) G dX8_done_5 rfl (Nat.le_of_ble_eq_true rfl) rfl rfl ?_
  refine w_iload_n (pc2 := 7) G 0 rfl dX8_done_6 rfl rfl ?_
  refine w_bipush (pc2 := 9) G dX8_done_7 k_bipush_m6 rfl ?_
  refine w_icmp_eq (tgt := 18) (pc2 := 12) G dX8_done_9 (by decide) rfl (fun cc => ?_) (fun cc => ?_)
  · replace h := (if_pos cc).symm.trans h
    refine w_aload_n (pc2 := 19) G 1 rfl dX8_done_18 rfl rfl ?_
    refine w_iconst (pc2 := 20) G dX8_done_19 k_iconst_0 rfl ?_
    refine w_put (pc2 := 23) (ws2 := (wX8 E a o x1.2.1 x1.2.2.1 c_sightOne c_sightOther c_sights c_pad (0 : Int32) x1.2.2.2.1 x1.2.2.2.2.1 x1.2.2.2.2.2.1 x1.2.2.2.2.2.2.1 x1.2.2.2.2.2.2.2.1 c_order c_digest c_tall x1.2.2.2.2.2.2.2.2.1 x1.2.2.2.2.2.2.2.2.2.1 x1.2.2.2.2.2.2.2.2.2.2.1 x1.2.2.2.2.2.2.2.2.2.2.2.1 x1.2.2.2.2.2.2.2.2.2.2.2.2.1 x1.2.2.2.2.2.2.2.2.2.2.2.2.2.1 x1.2.2.2.2.2.2.2.2.2.2.2.2.2.2.1 x1.2.2.2.2.2.2.2.2.2.2.2.2.2.2.2 c_from c_upTo c_shape c_kept c_isKept c_keptAt c_isWriting)) G foX8_107 tokX8 0 rfl rfl rfl rfl (Nat.le_of_ble_eq_true rfl) rfl dX8_done_20 rfl ?_
    refine w_aload_n (pc2 := 24) G 1 rfl dX8_done_23 rfl rfl ?_
    refine w_get (pc2 := 27) G foX8_110 0 rfl rfl dX8_done_24 rfl ?_
    cases h
    exact w_iret G hQ rfl ⟨rfl, rfl⟩ dX8_done_27
  · replace h := (if_neg cc).symm.trans h
    refine w_aload_n (pc2 := 13) G 1 rfl dX8_done_12 rfl rfl ?_
    refine w_iload_n (pc2 := 14) G 0 rfl dX8_done_13 rfl rfl ?_
    obtain ⟨x2, H_x2, h⟩ := bs h
    refine w_cV0 (pc2 := 17) (ws2 := (wX8 E a o x2.2.1 x2.2.2 c_sightOne c_sightOther c_sights c_pad c_padMany x1.2.2.2.1 x1.2.2.2.2.1 x1.2.2.2.2.2.1 x1.2.2.2.2.2.2.1 x1.2.2.2.2.2.2.2.1 c_order c_digest c_tall x1.2.2.2.2.2.2.2.2.1 x1.2.2.2.2.2.2.2.2.2.1 x1.2.2.2.2.2.2.2.2.2.2.1 x1.2.2.2.2.2.2.2.2.2.2.2.1 x1.2.2.2.2.2.2.2.2.2.2.2.2.1 x1.2.2.2.2.2.2.2.2.2.2.2.2.2.1 x1.2.2.2.2.2.2.2.2.2.2.2.2.2.2.1 x1.2.2.2.2.2.2.2.2.2.2.2.2.2.2.2 c_from c_upTo c_shape c_kept c_isKept c_keptAt c_isWriting)) (As := [.int x1.1]) (rest := []) G koX8_257 (r_X8_back H_x2) (Nat.le_of_ble_eq_true rfl) 8 rfl rfl rfl rfl (Nat.le_of_ble_eq_true rfl) ⟨Nat.zero_le _, Nat.zero_le _⟩ dX8_done_14 rfl rfl ?_
    cases h
    exact w_iret G hQ rfl ⟨rfl, rfl⟩ dX8_done_17

set_option maxHeartbeats 4000000 in
set_option maxRecDepth 100000 in
theorem r_X8_aboveOf {l : Launch} {E : EV} {a : Nat → Nat} {o : Nat} {c_seed : Int32} {c_is c_sightOne c_sightOther : Nat → Int32} {c_sights : Int32} {c_pad : Nat → Int32} {c_padMany : Int32} {c_act c_which c_key c_other : Nat → Int32} {c_acts : Int32} {c_order : Nat → Int32} {c_digest : Nat → Int64} {c_tall c_had : Nat → Int32} {c_badAct c_badWhy c_alikeAct c_alikeTwo c_work c_isWorked : Int32} {c_trees : Nat → Int64} {c_from c_upTo : Nat → Int32} {c_shape : Nat → Int64} {c_kept c_isKept : Nat → Int32} {c_keptAt c_isWriting : Int32} {l1 : Int32} {l2 : Int32} {R : Int32} (h : f_X8_aboveOf c_seed c_is l1 l2 = some R) : Ret1 l E yX8_aboveOf cX8_aboveOf 5 (some .int) 4 (wX8 E a o c_seed c_is c_sightOne c_sightOther c_sights c_pad c_padMany c_act c_which c_key c_other c_acts c_order c_digest c_tall c_had c_badAct c_badWhy c_alikeAct c_alikeTwo c_work c_isWorked c_trees c_from c_upTo c_shape c_kept c_isKept c_keptAt c_isWriting) [.ref (a o), .int l1, .int l2] (some (.int R)) (wX8 E a o c_seed c_is c_sightOne c_sightOther c_sights c_pad c_padMany c_act c_which c_key c_other c_acts c_order c_digest c_tall c_had c_badAct c_badWhy c_alikeAct c_alikeTwo c_work c_isWorked c_trees c_from c_upTo c_shape c_kept c_isKept c_keptAt c_isWriting) := by
  refine Ret.intro (lv := [(0, .ref (a o)), (1, .int l1), (2, .int l2)]) (by decide) (Nat.le_of_ble_eq_true rfl) rfl ?_
  intro g hgl G hQ
  subst hgl
  rw [f_X8_aboveOf] at h
  refine w_aload_n (pc2 := 1) G 0 rfl dX8_aboveOf_0 rfl rfl ?_
  refine w_iload_n (pc2 := 2) G 1 rfl dX8_aboveOf_1 rfl rfl ?_
  refine w_iload_n (pc2 := 3) G 2 rfl dX8_aboveOf_2 rfl rfl ?_
  refine w_iconst (pc2 := 4) G dX8_aboveOf_3 k_iconst_0 rfl ?_
  obtain ⟨x1, H_x1, h⟩ := bs h
  refine w_cV0 (pc2 := 7) (ws2 := (wX8 E a o c_seed c_is c_sightOne c_sightOther c_sights c_pad c_padMany c_act c_which c_key c_other c_acts c_order c_digest c_tall c_had c_badAct c_badWhy c_alikeAct c_alikeTwo c_work c_isWorked c_trees c_from c_upTo c_shape c_kept c_isKept c_keptAt c_isWriting)) (As := [.int l1, .int l2, .int (0 : Int32)]) (rest := []) G koX8_174 (r_X8_below H_x1) (Nat.le_of_ble_eq_true rfl) 8 rfl rfl rfl rfl (Nat.le_of_ble_eq_true rfl) ⟨Nat.zero_le _, Nat.zero_le _⟩ dX8_aboveOf_4 rfl rfl ?_
  refine w_istore_n (pc2 := 8) (lv2 := [(3, .int x1), (0, .ref (a o)), (1, .int l1), (2, .int l2)]) G dX8_aboveOf_7 rfl (Nat.le_of_ble_eq_true rfl) rfl rfl ?_
  refine w_aload_n (pc2 := 9) G 1 rfl dX8_aboveOf_8 rfl rfl ?_
  refine w_iload_n (pc2 := 10) G 2 rfl dX8_aboveOf_9 rfl rfl ?_
  refine w_iload_n (pc2 := 11) G 3 rfl dX8_aboveOf_10 rfl rfl ?_
  refine w_bipush (pc2 := 13) G dX8_aboveOf_11 k_bipush_49 rfl ?_
  obtain ⟨x2, H_x2, h⟩ := bs h
  refine w_cV0 (pc2 := 16) (ws2 := (wX8 E a o c_seed c_is c_sightOne c_sightOther c_sights c_pad c_padMany c_act c_which c_key c_other c_acts c_order c_digest c_tall c_had c_badAct c_badWhy c_alikeAct c_alikeTwo c_work c_isWorked c_trees c_from c_upTo c_shape c_kept c_isKept c_keptAt c_isWriting)) (As := [.int l1, .int l2, .int (49 : Int32)]) (rest := []) G koX8_171 (r_X8_beyond H_x2) (Nat.le_of_ble_eq_true rfl) 8 rfl rfl rfl rfl (Nat.le_of_ble_eq_true rfl) ⟨Nat.zero_le _, Nat.zero_le _⟩ dX8_aboveOf_13 rfl rfl ?_
  refine w_istore (pc2 := 18) (lv2 := [(4, .int x2), (3, .int x1), (0, .ref (a o)), (1, .int l1), (2, .int l2)]) G dX8_aboveOf_16 (Nat.le_of_ble_eq_true rfl) rfl rfl ?_
  refine w_iload_n (pc2 := 19) G 1 rfl dX8_aboveOf_18 rfl rfl ?_
  refine w_if_ge (tgt := 37) (pc2 := 22) G dX8_aboveOf_19 (by decide) rfl (fun cc => ?_) (fun cc => ?_)
  · replace h := (if_pos cc).symm.trans h
    refine w_iload (pc2 := 39) G 0 rfl dX8_aboveOf_37 rfl ?_
    refine w_bipush (pc2 := 41) G dX8_aboveOf_39 k_bipush_50 rfl ?_
    refine w_icmp_eq (tgt := 54) (pc2 := 44) G dX8_aboveOf_41 (by decide) rfl (fun cc => ?_) (fun cc => ?_)
    · replace h := (if_pos cc).symm.trans h
      refine w_iload_n (pc2 := 55) G 1 rfl dX8_aboveOf_54 rfl rfl ?_
      refine w_goto (tgt := 60) G dX8_aboveOf_55 (by decide) ?_
      cases h
      exact w_iret G hQ rfl ⟨rfl, rfl⟩ dX8_aboveOf_60
    · replace h := (if_neg cc).symm.trans h
      refine w_aload_n (pc2 := 45) G 2 rfl dX8_aboveOf_44 rfl rfl ?_
      refine w_iload (pc2 := 47) G 0 rfl dX8_aboveOf_45 rfl ?_
      refine w_iload_n (pc2 := 48) G 1 rfl dX8_aboveOf_47 rfl rfl ?_
      obtain ⟨x3, H_x3, h⟩ := bs h
      refine w_cV0 (pc2 := 51) (ws2 := (wX8 E a o c_seed c_is c_sightOne c_sightOther c_sights c_pad c_padMany c_act c_which c_key c_other c_acts c_order c_digest c_tall c_had c_badAct c_badWhy c_alikeAct c_alikeTwo c_work c_isWorked c_trees c_from c_upTo c_shape c_kept c_isKept c_keptAt c_isWriting)) (As := [.int x2, .int x1]) (rest := []) G koX8_168 (r_X8_ranks H_x3) (Nat.le_of_ble_eq_true rfl) 8 rfl rfl rfl rfl (Nat.le_of_ble_eq_true rfl) ⟨Nat.zero_le _, Nat.zero_le _⟩ dX8_aboveOf_48 rfl rfl ?_
      refine w_if_eq (tgt := 58) (pc2 := 54) G dX8_aboveOf_51 (by decide) rfl (fun cc => ?_) (fun cc => ?_)
      · replace h := (if_pos cc).symm.trans h
        refine w_iload (pc2 := 60) G 0 rfl dX8_aboveOf_58 rfl ?_
        cases h
        exact w_iret G hQ rfl ⟨rfl, rfl⟩ dX8_aboveOf_60
      · replace h := (if_neg cc).symm.trans h
        refine w_iload_n (pc2 := 55) G 1 rfl dX8_aboveOf_54 rfl rfl ?_
        refine w_goto (tgt := 60) G dX8_aboveOf_55 (by decide) ?_
        cases h
        exact w_iret G hQ rfl ⟨rfl, rfl⟩ dX8_aboveOf_60
  · replace h := (if_neg cc).symm.trans h
    refine w_iload (pc2 := 24) G 0 rfl dX8_aboveOf_22 rfl ?_
    refine w_bipush (pc2 := 26) G dX8_aboveOf_24 k_bipush_50 rfl ?_
    refine w_icmp_ge (tgt := 34) (pc2 := 29) G dX8_aboveOf_26 (by decide) rfl (fun cc => ?_) (fun cc => ?_)
    · replace h := (if_pos cc).symm.trans h
      refine w_bipush (pc2 := 36) G dX8_aboveOf_34 k_bipush_m6 rfl ?_
      cases h
      exact w_iret G hQ rfl ⟨rfl, rfl⟩ dX8_aboveOf_36
    · replace h := (if_neg cc).symm.trans h
      refine w_iload (pc2 := 31) G 0 rfl dX8_aboveOf_29 rfl ?_
      refine w_goto (tgt := 36) G dX8_aboveOf_31 (by decide) ?_
      cases h
      exact w_iret G hQ rfl ⟨rfl, rfl⟩ dX8_aboveOf_36

set_option maxHeartbeats 4000000 in
set_option maxRecDepth 100000 in
theorem lp_X8_depthOf_10 {g : CX} {E : EV} {a : Nat → Nat} {o : Nat} {c_sightOne c_sightOther : Nat → Int32} {c_sights : Int32} {c_pad : Nat → Int32} {c_padMany : Int32} {c_act c_which c_key c_other : Nat → Int32} {c_acts : Int32} {c_order : Nat → Int32} {c_digest : Nat → Int64} {c_tall c_had : Nat → Int32} {c_badAct c_badWhy c_alikeAct c_alikeTwo c_work c_isWorked : Int32} {c_trees : Nat → Int64} {c_from c_upTo : Nat → Int32} {c_shape : Nat → Int64} {c_kept c_isKept : Nat → Int32} {c_keptAt c_isWriting : Int32}  (G : GG g E RX8 cX8_depthOf 5 (some .int) 5 0 0) : ∀ (n : Nat) (c_seed : Int32) (c_is : Nat → Int32) (l1 : Int32) (l3 : Int32) (l4 : Int32) (R : Int32), L_X8_depthOf_10 n c_seed c_is l1 l3 l4 = some R → WW g E 5 0 0 (wX8 E a o c_seed c_is c_sightOne c_sightOther c_sights c_pad c_padMany c_act c_which c_key c_other c_acts c_order c_digest c_tall c_had c_badAct c_badWhy c_alikeAct c_alikeTwo c_work c_isWorked c_trees c_from c_upTo c_shape c_kept c_isKept c_keptAt c_isWriting) [(3, .int R)] 30 [] → WW g E 5 0 0 (wX8 E a o c_seed c_is c_sightOne c_sightOther c_sights c_pad c_padMany c_act c_which c_key c_other c_acts c_order c_digest c_tall c_had c_badAct c_badWhy c_alikeAct c_alikeTwo c_work c_isWorked c_trees c_from c_upTo c_shape c_kept c_isKept c_keptAt c_isWriting) [(0, .ref (a o)), (1, .int l1), (3, .int l3), (4, .int l4)] 10 [] := by
  intro n
  induction n with
  | zero => intro c_seed c_is l1 l3 l4 R h; exact no_some h
  | succ n ih =>
    intro c_seed c_is l1 l3 l4 R h K
    rw [L_X8_depthOf_10] at h
    refine w_iload (pc2 := 12) G 3 rfl dX8_depthOf_10 rfl ?_
    refine w_if_lt (tgt := 30) (pc2 := 15) G dX8_depthOf_12 (by decide) rfl (fun cc => ?_) (fun cc => ?_)
    · replace h := (if_pos cc).symm.trans h
      cases h
      exact w_lv [2] rfl K
    · replace h := (if_neg cc).symm.trans h
      refine w_iinc (pc2 := 18) (lv2 := [(3, .int (l3 + (1 : Int32))), (0, .ref (a o)), (1, .int l1), (4, .int l4)]) G 2 rfl dX8_depthOf_15 k_iconst_1 (Nat.le_of_ble_eq_true rfl) rfl rfl ?_
      refine w_aload_n (pc2 := 19) G 1 rfl dX8_depthOf_18 rfl rfl ?_
      refine w_iload_n (pc2 := 20) G 2 rfl dX8_depthOf_19 rfl rfl ?_
      refine w_iload (pc2 := 22) G 3 rfl dX8_depthOf_20 rfl ?_
      obtain ⟨x1, H_x1, h⟩ := bs h
      refine w_cV0 (pc2 := 25) (ws2 := (wX8 E a o c_seed c_is c_sightOne c_sightOther c_sights c_pad c_padMany c_act c_which c_key c_other c_acts c_order c_digest c_tall c_had c_badAct c_badWhy c_alikeAct c_alikeTwo c_work c_isWorked c_trees c_from c_upTo c_shape c_kept c_isKept c_keptAt c_isWriting)) (As := [.int l1, .int l4]) (rest := []) G koX8_266 (r_X8_aboveOf H_x1) (Nat.le_of_ble_eq_true rfl) 8 rfl rfl rfl rfl (Nat.le_of_ble_eq_true rfl) ⟨Nat.zero_le _, Nat.zero_le _⟩ dX8_depthOf_22 rfl rfl ?_
      refine w_istore (pc2 := 27) (lv2 := [(4, .int x1), (3, .int (l3 + (1 : Int32))), (0, .ref (a o)), (1, .int l1)]) G dX8_depthOf_25 (Nat.le_of_ble_eq_true rfl) rfl rfl ?_
      refine w_goto (tgt := 10) G dX8_depthOf_27 (by decide) ?_
      exact w_lv [2, 3, 1, 0] rfl (ih _ _ _ _ _ _ h K)
set_option maxHeartbeats 4000000 in
set_option maxRecDepth 100000 in
theorem r_X8_depthOf {l : Launch} {E : EV} {a : Nat → Nat} {o : Nat} {c_seed : Int32} {c_is c_sightOne c_sightOther : Nat → Int32} {c_sights : Int32} {c_pad : Nat → Int32} {c_padMany : Int32} {c_act c_which c_key c_other : Nat → Int32} {c_acts : Int32} {c_order : Nat → Int32} {c_digest : Nat → Int64} {c_tall c_had : Nat → Int32} {c_badAct c_badWhy c_alikeAct c_alikeTwo c_work c_isWorked : Int32} {c_trees : Nat → Int64} {c_from c_upTo : Nat → Int32} {c_shape : Nat → Int64} {c_kept c_isKept : Nat → Int32} {c_keptAt c_isWriting : Int32} {l1 : Int32} {l2 : Int32} {R : Int32} (h : f_X8_depthOf c_seed c_is l1 l2 = some R) : Ret1 l E yX8_depthOf cX8_depthOf 5 (some .int) 5 (wX8 E a o c_seed c_is c_sightOne c_sightOther c_sights c_pad c_padMany c_act c_which c_key c_other c_acts c_order c_digest c_tall c_had c_badAct c_badWhy c_alikeAct c_alikeTwo c_work c_isWorked c_trees c_from c_upTo c_shape c_kept c_isKept c_keptAt c_isWriting) [.ref (a o), .int l1, .int l2] (some (.int R)) (wX8 E a o c_seed c_is c_sightOne c_sightOther c_sights c_pad c_padMany c_act c_which c_key c_other c_acts c_order c_digest c_tall c_had c_badAct c_badWhy c_alikeAct c_alikeTwo c_work c_isWorked c_trees c_from c_upTo c_shape c_kept c_isKept c_keptAt c_isWriting) := by
  refine Ret.intro (lv := [(0, .ref (a o)), (1, .int l1), (2, .int l2)]) (by decide) (Nat.le_of_ble_eq_true rfl) rfl ?_
  intro g hgl G hQ
  subst hgl
  rw [f_X8_depthOf] at h
  refine w_iconst (pc2 := 1) G dX8_depthOf_0 k_iconst_0 rfl ?_
  refine w_istore_n (pc2 := 2) (lv2 := [(3, .int (0 : Int32)), (0, .ref (a o)), (1, .int l1), (2, .int l2)]) G dX8_depthOf_1 rfl (Nat.le_of_ble_eq_true rfl) rfl rfl ?_
  refine w_aload_n (pc2 := 3) G 1 rfl dX8_depthOf_2 rfl rfl ?_
  refine w_iload_n (pc2 := 4) G 2 rfl dX8_depthOf_3 rfl rfl ?_
  refine w_iload_n (pc2 := 5) G 3 rfl dX8_depthOf_4 rfl rfl ?_
  obtain ⟨x1, H_x1, h⟩ := bs h
  refine w_cV0 (pc2 := 8) (ws2 := (wX8 E a o c_seed c_is c_sightOne c_sightOther c_sights c_pad c_padMany c_act c_which c_key c_other c_acts c_order c_digest c_tall c_had c_badAct c_badWhy c_alikeAct c_alikeTwo c_work c_isWorked c_trees c_from c_upTo c_shape c_kept c_isKept c_keptAt c_isWriting)) (As := [.int l1, .int l2]) (rest := []) G koX8_266 (r_X8_aboveOf H_x1) (Nat.le_of_ble_eq_true rfl) 8 rfl rfl rfl rfl (Nat.le_of_ble_eq_true rfl) ⟨Nat.zero_le _, Nat.zero_le _⟩ dX8_depthOf_5 rfl rfl ?_
  refine w_istore (pc2 := 10) (lv2 := [(4, .int x1), (3, .int (0 : Int32)), (0, .ref (a o)), (1, .int l1), (2, .int l2)]) G dX8_depthOf_8 (Nat.le_of_ble_eq_true rfl) rfl rfl ?_
  obtain ⟨x2, h0, h⟩ := bs h
  have K_x2 : WW g E 5 0 0 (wX8 E a o c_seed c_is c_sightOne c_sightOther c_sights c_pad c_padMany c_act c_which c_key c_other c_acts c_order c_digest c_tall c_had c_badAct c_badWhy c_alikeAct c_alikeTwo c_work c_isWorked c_trees c_from c_upTo c_shape c_kept c_isKept c_keptAt c_isWriting) [(3, .int x2)] 30 [] := by
    clear h0
    refine w_iload_n (pc2 := 31) G 0 rfl dX8_depthOf_30 rfl rfl ?_
    cases h
    exact w_iret G hQ rfl ⟨rfl, rfl⟩ dX8_depthOf_31
  exact w_lv [2, 3, 1, 0] rfl (lp_X8_depthOf_10 G 20000 _ _ _ _ _ _ h0 (w_lv [0] rfl K_x2))

set_option maxHeartbeats 4000000 in
set_option maxRecDepth 100000 in
theorem r_X8_digestAt {l : Launch} {E : EV} {a : Nat → Nat} {o : Nat} {c_seed : Int32} {c_is c_sightOne c_sightOther : Nat → Int32} {c_sights : Int32} {c_pad : Nat → Int32} {c_padMany : Int32} {c_act c_which c_key c_other : Nat → Int32} {c_acts : Int32} {c_order : Nat → Int32} {c_digest : Nat → Int64} {c_tall c_had : Nat → Int32} {c_badAct c_badWhy c_alikeAct c_alikeTwo c_work c_isWorked : Int32} {c_trees : Nat → Int64} {c_from c_upTo : Nat → Int32} {c_shape : Nat → Int64} {c_kept c_isKept : Nat → Int32} {c_keptAt c_isWriting : Int32} {l1 : Int32} {l2 : Int32} {R : Int32 × (Nat → Int32) × (Nat → Int64) × (Nat → Int32)} (h : f_X8_digestAt c_seed c_is c_order c_digest c_tall l1 l2 = some R) : Ret1 l E yX8_digestAt cX8_digestAt 3 (some .int) 6 (wX8 E a o c_seed c_is c_sightOne c_sightOther c_sights c_pad c_padMany c_act c_which c_key c_other c_acts c_order c_digest c_tall c_had c_badAct c_badWhy c_alikeAct c_alikeTwo c_work c_isWorked c_trees c_from c_upTo c_shape c_kept c_isKept c_keptAt c_isWriting) [.ref (a o), .int l1, .int l2] (some (.int R.1)) (wX8 E a o c_seed c_is c_sightOne c_sightOther c_sights c_pad c_padMany c_act c_which c_key c_other c_acts R.2.1 R.2.2.1 R.2.2.2 c_had c_badAct c_badWhy c_alikeAct c_alikeTwo c_work c_isWorked c_trees c_from c_upTo c_shape c_kept c_isKept c_keptAt c_isWriting) := by
  refine Ret.intro (lv := [(0, .ref (a o)), (1, .int l1), (2, .int l2)]) (by decide) (Nat.le_of_ble_eq_true rfl) rfl ?_
  intro g hgl G hQ
  subst hgl
  rw [f_X8_digestAt] at h
  refine w_aload_n (pc2 := 1) G 0 rfl dX8_digestAt_0 rfl rfl ?_
  refine w_iload_n (pc2 := 2) G 1 rfl dX8_digestAt_1 rfl rfl ?_
  refine w_iconst (pc2 := 3) G dX8_digestAt_2 k_iconst_0 rfl ?_
  refine w_bipush (pc2 := 5) G dX8_digestAt_3 k_bipush_49 rfl ?_
  obtain ⟨x1, H_x1, h⟩ := bs h
  refine w_cV0 (pc2 := 8) (ws2 := (wX8 E a o c_seed c_is c_sightOne c_sightOther c_sights c_pad c_padMany c_act c_which c_key c_other c_acts x1.2.1 x1.2.2.1 x1.2.2.2 c_had c_badAct c_badWhy c_alikeAct c_alikeTwo c_work c_isWorked c_trees c_from c_upTo c_shape c_kept c_isKept c_keptAt c_isWriting)) (As := [.int l1, .int (0 : Int32), .int (49 : Int32)]) (rest := []) G koX8_260 (r_X8_digestOf H_x1) (Nat.le_of_ble_eq_true rfl) 8 rfl rfl rfl rfl (Nat.le_of_ble_eq_true rfl) ⟨Nat.zero_le _, Nat.zero_le _⟩ dX8_digestAt_5 rfl rfl ?_
  refine w_pop (pc2 := 9) G dX8_digestAt_8 rfl rfl ?_
  refine w_aload_n (pc2 := 10) G 0 rfl dX8_digestAt_9 rfl rfl ?_
  refine w_get (pc2 := 13) G foX8_37 0 rfl rfl dX8_digestAt_10 rfl ?_
  refine w_iload_n (pc2 := 14) G 2 rfl dX8_digestAt_13 rfl rfl ?_
  obtain ⟨v2, H_v2, h⟩ := bs h
  refine w_laldo (pc2 := 15) G 10 rfl H_v2 dX8_digestAt_14 rfl ?_
  refine w_l2i (pc2 := 16) G dX8_digestAt_15 rfl ?_
  cases h
  exact w_iret G hQ rfl ⟨rfl, rfl⟩ dX8_digestAt_16

set_option maxHeartbeats 4000000 in
set_option maxRecDepth 100000 in
theorem r_X8_node {l : Launch} {E : EV} {a : Nat → Nat} {o : Nat} {c_seed : Int32} {c_is c_sightOne c_sightOther : Nat → Int32} {c_sights : Int32} {c_pad : Nat → Int32} {c_padMany : Int32} {c_act c_which c_key c_other : Nat → Int32} {c_acts : Int32} {c_order : Nat → Int32} {c_digest : Nat → Int64} {c_tall c_had : Nat → Int32} {c_badAct c_badWhy c_alikeAct c_alikeTwo c_work c_isWorked : Int32} {c_trees : Nat → Int64} {c_from c_upTo : Nat → Int32} {c_shape : Nat → Int64} {c_kept c_isKept : Nat → Int32} {c_keptAt c_isWriting : Int32} {l1 : Int32} {l2 : Int32} {l3 : Int32} {R : Int32 × (Nat → Int32) × (Nat → Int64) × (Nat → Int32)} (h : f_X8_node c_seed c_is c_order c_digest c_tall l1 l2 l3 = some R) : Ret1 l E yX8_node cX8_node 4 (some .int) 7 (wX8 E a o c_seed c_is c_sightOne c_sightOther c_sights c_pad c_padMany c_act c_which c_key c_other c_acts c_order c_digest c_tall c_had c_badAct c_badWhy c_alikeAct c_alikeTwo c_work c_isWorked c_trees c_from c_upTo c_shape c_kept c_isKept c_keptAt c_isWriting) [.ref (a o), .int l1, .int l2, .int l3] (some (.int R.1)) (wX8 E a o c_seed c_is c_sightOne c_sightOther c_sights c_pad c_padMany c_act c_which c_key c_other c_acts R.2.1 R.2.2.1 R.2.2.2 c_had c_badAct c_badWhy c_alikeAct c_alikeTwo c_work c_isWorked c_trees c_from c_upTo c_shape c_kept c_isKept c_keptAt c_isWriting) := by
  refine Ret.intro (lv := [(0, .ref (a o)), (1, .int l1), (2, .int l2), (3, .int l3)]) (by decide) (Nat.le_of_ble_eq_true rfl) rfl ?_
  intro g hgl G hQ
  subst hgl
  rw [f_X8_node] at h
  refine w_iload_n (pc2 := 1) G 1 rfl dX8_node_0 rfl rfl ?_
  obtain ⟨x1, H_x1, h⟩ := bs h
  refine w_cS0 (pc2 := 4) (As := [.int l1]) (rest := []) G koX8_88 (r_X8_isSet H_x1) (Nat.le_of_ble_eq_true rfl) rfl rfl (Nat.le_of_ble_eq_true rfl) ⟨Nat.zero_le _, Nat.zero_le _⟩ dX8_node_1 rfl rfl ?_
  refine w_if_eq (tgt := 14) (pc2 := 7) G dX8_node_4 (by decide) rfl (fun cc => ?_) (fun cc => ?_)
  · replace h := (if_pos cc).symm.trans h
    refine w_iconst (pc2 := 15) G dX8_node_14 k_iconst_m1 rfl ?_
    cases h
    exact w_iret G hQ rfl ⟨rfl, rfl⟩ dX8_node_15
  · replace h := (if_neg cc).symm.trans h
    refine w_iload_n (pc2 := 8) G 2 rfl dX8_node_7 rfl rfl ?_
    obtain ⟨x2, H_x2, h⟩ := bs h
    refine w_cS0 (pc2 := 11) (As := [.int l2]) (rest := []) G koX8_92 (r_X8_isKey H_x2) (Nat.le_of_ble_eq_true rfl) rfl rfl (Nat.le_of_ble_eq_true rfl) ⟨Nat.zero_le _, Nat.zero_le _⟩ dX8_node_8 rfl rfl ?_
    refine w_if_ne (tgt := 16) (pc2 := 14) G dX8_node_11 (by decide) rfl (fun cc => ?_) (fun cc => ?_)
    · replace h := (if_neg cc).symm.trans h
      refine w_iload_n (pc2 := 17) G 3 rfl dX8_node_16 rfl rfl ?_
      refine w_i2l (pc2 := 18) G dX8_node_17 rfl ?_
      refine w_lconst (pc2 := 19) G dX8_node_18 k_lconst_0 rfl ?_
      refine w_ldc2 (pc2 := 22) G wd_326 dX8_node_19 rfl ?_
      obtain ⟨x3, H_x3, h⟩ := bs h
      refine w_cS0 (pc2 := 25) (As := [.long l3.toInt64, .long (0 : Int64), .long (6 : Int64)]) (rest := []) G koX8_68 (r_X8_in H_x3) (Nat.le_of_ble_eq_true rfl) rfl rfl (Nat.le_of_ble_eq_true rfl) ⟨Nat.zero_le _, Nat.zero_le _⟩ dX8_node_22 rfl rfl ?_
      refine w_if_ne (tgt := 31) (pc2 := 28) G dX8_node_25 (by decide) rfl (fun cc => ?_) (fun cc => ?_)
      · replace h := (if_neg cc).symm.trans h
        refine w_aload_n (pc2 := 32) G 0 rfl dX8_node_31 rfl rfl ?_
        refine w_iload_n (pc2 := 33) G 1 rfl dX8_node_32 rfl rfl ?_
        refine w_iload_n (pc2 := 34) G 2 rfl dX8_node_33 rfl rfl ?_
        obtain ⟨x4, H_x4, h⟩ := bs h
        refine w_cV0 (pc2 := 37) (ws2 := (wX8 E a o c_seed c_is c_sightOne c_sightOther c_sights c_pad c_padMany c_act c_which c_key c_other c_acts c_order c_digest c_tall c_had c_badAct c_badWhy c_alikeAct c_alikeTwo c_work c_isWorked c_trees c_from c_upTo c_shape c_kept c_isKept c_keptAt c_isWriting)) (As := [.int l1, .int l2]) (rest := []) G koX8_95 (r_X8_has H_x4) (Nat.le_of_ble_eq_true rfl) 8 rfl rfl rfl rfl (Nat.le_of_ble_eq_true rfl) ⟨Nat.zero_le _, Nat.zero_le _⟩ dX8_node_34 rfl rfl ?_
        refine w_if_ne (tgt := 43) (pc2 := 40) G dX8_node_37 (by decide) rfl (fun cc => ?_) (fun cc => ?_)
        · replace h := (if_neg cc).symm.trans h
          refine w_iload_n (pc2 := 44) G 3 rfl dX8_node_43 rfl rfl ?_
          by_cases sdX8_node_44_0 : l3 = (0 : Int32)
          · replace h := (if_pos sdX8_node_44_0).symm.trans h
            refine w_tabIn (tgt := 84) G sdX8_node_44_0 dX8_node_44 (by decide) (by decide) rfl (by decide) ?_
            refine w_aload_n (pc2 := 85) G 0 rfl dX8_node_84 rfl rfl ?_
            refine w_iload_n (pc2 := 86) G 1 rfl dX8_node_85 rfl rfl ?_
            refine w_iload_n (pc2 := 87) G 2 rfl dX8_node_86 rfl rfl ?_
            obtain ⟨x5, H_x5, h⟩ := bs h
            refine w_cV0 (pc2 := 90) (ws2 := (wX8 E a o c_seed c_is c_sightOne c_sightOther c_sights c_pad c_padMany c_act c_which c_key c_other c_acts c_order c_digest c_tall c_had c_badAct c_badWhy c_alikeAct c_alikeTwo c_work c_isWorked c_trees c_from c_upTo c_shape c_kept c_isKept c_keptAt c_isWriting)) (As := [.int l1, .int l2]) (rest := []) G koX8_266 (r_X8_aboveOf H_x5) (Nat.le_of_ble_eq_true rfl) 8 rfl rfl rfl rfl (Nat.le_of_ble_eq_true rfl) ⟨Nat.zero_le _, Nat.zero_le _⟩ dX8_node_87 rfl rfl ?_
            cases h
            exact w_iret G hQ rfl ⟨rfl, rfl⟩ dX8_node_90
          replace h := (if_neg sdX8_node_44_0).symm.trans h
          by_cases sdX8_node_44_1 : l3 = (1 : Int32)
          · replace h := (if_pos sdX8_node_44_1).symm.trans h
            refine w_tabIn (tgt := 91) G sdX8_node_44_1 dX8_node_44 (by decide) (by decide) rfl (by decide) ?_
            refine w_aload_n (pc2 := 92) G 0 rfl dX8_node_91 rfl rfl ?_
            refine w_iload_n (pc2 := 93) G 1 rfl dX8_node_92 rfl rfl ?_
            refine w_aload_n (pc2 := 94) G 0 rfl dX8_node_93 rfl rfl ?_
            refine w_iload_n (pc2 := 95) G 1 rfl dX8_node_94 rfl rfl ?_
            refine w_iload_n (pc2 := 96) G 2 rfl dX8_node_95 rfl rfl ?_
            refine w_iconst (pc2 := 97) G dX8_node_96 k_iconst_0 rfl ?_
            obtain ⟨x6, H_x6, h⟩ := bs h
            refine w_cV0 (pc2 := 100) (ws2 := (wX8 E a o c_seed c_is c_sightOne c_sightOther c_sights c_pad c_padMany c_act c_which c_key c_other c_acts c_order c_digest c_tall c_had c_badAct c_badWhy c_alikeAct c_alikeTwo c_work c_isWorked c_trees c_from c_upTo c_shape c_kept c_isKept c_keptAt c_isWriting)) (As := [.int l1, .int l2, .int (0 : Int32)]) (rest := [.int l1, .ref (a o)]) G koX8_174 (r_X8_below H_x6) (Nat.le_of_ble_eq_true rfl) 8 rfl rfl rfl rfl (Nat.le_of_ble_eq_true rfl) ⟨Nat.zero_le _, Nat.zero_le _⟩ dX8_node_97 rfl rfl ?_
            refine w_iconst (pc2 := 101) G dX8_node_100 k_iconst_1 rfl ?_
            refine w_iadd (pc2 := 102) G dX8_node_101 rfl ?_
            refine w_iload_n (pc2 := 103) G 2 rfl dX8_node_102 rfl rfl ?_
            refine w_iconst (pc2 := 104) G dX8_node_103 k_iconst_1 rfl ?_
            refine w_isub (pc2 := 105) G dX8_node_104 rfl ?_
            obtain ⟨x7, H_x7, h⟩ := bs h
            refine w_cV0 (pc2 := 108) (ws2 := (wX8 E a o c_seed c_is c_sightOne c_sightOther c_sights c_pad c_padMany c_act c_which c_key c_other c_acts c_order c_digest c_tall c_had c_badAct c_badWhy c_alikeAct c_alikeTwo c_work c_isWorked c_trees c_from c_upTo c_shape c_kept c_isKept c_keptAt c_isWriting)) (As := [.int l1, .int (x6 + (1 : Int32)), .int (l2 - (1 : Int32))]) (rest := []) G koX8_177 (r_X8_rootOf H_x7) (Nat.le_of_ble_eq_true rfl) 8 rfl rfl rfl rfl (Nat.le_of_ble_eq_true rfl) ⟨Nat.zero_le _, Nat.zero_le _⟩ dX8_node_105 rfl rfl ?_
            cases h
            exact w_iret G hQ rfl ⟨rfl, rfl⟩ dX8_node_108
          replace h := (if_neg sdX8_node_44_1).symm.trans h
          by_cases sdX8_node_44_2 : l3 = (2 : Int32)
          · replace h := (if_pos sdX8_node_44_2).symm.trans h
            refine w_tabIn (tgt := 109) G sdX8_node_44_2 dX8_node_44 (by decide) (by decide) rfl (by decide) ?_
            refine w_aload_n (pc2 := 110) G 0 rfl dX8_node_109 rfl rfl ?_
            refine w_iload_n (pc2 := 111) G 1 rfl dX8_node_110 rfl rfl ?_
            refine w_iload_n (pc2 := 112) G 2 rfl dX8_node_111 rfl rfl ?_
            refine w_iconst (pc2 := 113) G dX8_node_112 k_iconst_1 rfl ?_
            refine w_iadd (pc2 := 114) G dX8_node_113 rfl ?_
            refine w_aload_n (pc2 := 115) G 0 rfl dX8_node_114 rfl rfl ?_
            refine w_iload_n (pc2 := 116) G 1 rfl dX8_node_115 rfl rfl ?_
            refine w_iload_n (pc2 := 117) G 2 rfl dX8_node_116 rfl rfl ?_
            refine w_bipush (pc2 := 119) G dX8_node_117 k_bipush_49 rfl ?_
            obtain ⟨x8, H_x8, h⟩ := bs h
            refine w_cV0 (pc2 := 122) (ws2 := (wX8 E a o c_seed c_is c_sightOne c_sightOther c_sights c_pad c_padMany c_act c_which c_key c_other c_acts c_order c_digest c_tall c_had c_badAct c_badWhy c_alikeAct c_alikeTwo c_work c_isWorked c_trees c_from c_upTo c_shape c_kept c_isKept c_keptAt c_isWriting)) (As := [.int l1, .int l2, .int (49 : Int32)]) (rest := [.int (l2 + (1 : Int32)), .int l1, .ref (a o)]) G koX8_171 (r_X8_beyond H_x8) (Nat.le_of_ble_eq_true rfl) 8 rfl rfl rfl rfl (Nat.le_of_ble_eq_true rfl) ⟨Nat.zero_le _, Nat.zero_le _⟩ dX8_node_119 rfl rfl ?_
            refine w_iconst (pc2 := 123) G dX8_node_122 k_iconst_1 rfl ?_
            refine w_isub (pc2 := 124) G dX8_node_123 rfl ?_
            obtain ⟨x9, H_x9, h⟩ := bs h
            refine w_cV0 (pc2 := 127) (ws2 := (wX8 E a o c_seed c_is c_sightOne c_sightOther c_sights c_pad c_padMany c_act c_which c_key c_other c_acts c_order c_digest c_tall c_had c_badAct c_badWhy c_alikeAct c_alikeTwo c_work c_isWorked c_trees c_from c_upTo c_shape c_kept c_isKept c_keptAt c_isWriting)) (As := [.int l1, .int (l2 + (1 : Int32)), .int (x8 - (1 : Int32))]) (rest := []) G koX8_177 (r_X8_rootOf H_x9) (Nat.le_of_ble_eq_true rfl) 8 rfl rfl rfl rfl (Nat.le_of_ble_eq_true rfl) ⟨Nat.zero_le _, Nat.zero_le _⟩ dX8_node_124 rfl rfl ?_
            cases h
            exact w_iret G hQ rfl ⟨rfl, rfl⟩ dX8_node_127
          replace h := (if_neg sdX8_node_44_2).symm.trans h
          by_cases sdX8_node_44_3 : l3 = (3 : Int32)
          · replace h := (if_pos sdX8_node_44_3).symm.trans h
            refine w_tabIn (tgt := 128) G sdX8_node_44_3 dX8_node_44 (by decide) (by decide) rfl (by decide) ?_
            refine w_aload_n (pc2 := 129) G 0 rfl dX8_node_128 rfl rfl ?_
            refine w_iload_n (pc2 := 130) G 1 rfl dX8_node_129 rfl rfl ?_
            refine w_iload_n (pc2 := 131) G 2 rfl dX8_node_130 rfl rfl ?_
            obtain ⟨x10, H_x10, h⟩ := bs h
            refine w_cV0 (pc2 := 134) (ws2 := (wX8 E a o c_seed c_is c_sightOne c_sightOther c_sights c_pad c_padMany c_act c_which c_key c_other c_acts c_order c_digest c_tall c_had c_badAct c_badWhy c_alikeAct c_alikeTwo c_work c_isWorked c_trees c_from c_upTo c_shape c_kept c_isKept c_keptAt c_isWriting)) (As := [.int l1, .int l2]) (rest := []) G koX8_193 (r_X8_treeOf H_x10) (Nat.le_of_ble_eq_true rfl) 8 rfl rfl rfl rfl (Nat.le_of_ble_eq_true rfl) ⟨Nat.zero_le _, Nat.zero_le _⟩ dX8_node_131 rfl rfl ?_
            obtain ⟨x11, H_x11, h⟩ := bs h
            refine w_cS0 (pc2 := 137) (As := [.long x10]) (rest := []) G koX8_271 (r_X8_ones H_x11) (Nat.le_of_ble_eq_true rfl) rfl rfl (Nat.le_of_ble_eq_true rfl) ⟨Nat.zero_le _, Nat.zero_le _⟩ dX8_node_134 rfl rfl ?_
            cases h
            exact w_iret G hQ rfl ⟨rfl, rfl⟩ dX8_node_137
          replace h := (if_neg sdX8_node_44_3).symm.trans h
          by_cases sdX8_node_44_4 : l3 = (4 : Int32)
          · replace h := (if_pos sdX8_node_44_4).symm.trans h
            refine w_tabIn (tgt := 138) G sdX8_node_44_4 dX8_node_44 (by decide) (by decide) rfl (by decide) ?_
            refine w_aload_n (pc2 := 139) G 0 rfl dX8_node_138 rfl rfl ?_
            refine w_iload_n (pc2 := 140) G 1 rfl dX8_node_139 rfl rfl ?_
            refine w_iload_n (pc2 := 141) G 2 rfl dX8_node_140 rfl rfl ?_
            obtain ⟨x12, H_x12, h⟩ := bs h
            refine w_cV0 (pc2 := 144) (ws2 := (wX8 E a o c_seed c_is c_sightOne c_sightOther c_sights c_pad c_padMany c_act c_which c_key c_other c_acts x12.2.1 x12.2.2.1 x12.2.2.2 c_had c_badAct c_badWhy c_alikeAct c_alikeTwo c_work c_isWorked c_trees c_from c_upTo c_shape c_kept c_isKept c_keptAt c_isWriting)) (As := [.int l1, .int l2]) (rest := []) G koX8_275 (r_X8_digestAt H_x12) (Nat.le_of_ble_eq_true rfl) 8 rfl rfl rfl rfl (Nat.le_of_ble_eq_true rfl) ⟨Nat.zero_le _, Nat.zero_le _⟩ dX8_node_141 rfl rfl ?_
            cases h
            exact w_iret G hQ rfl ⟨rfl, rfl⟩ dX8_node_144
          replace h := (if_neg sdX8_node_44_4).symm.trans h
          by_cases sdX8_node_44_5 : l3 = (5 : Int32)
          · replace h := (if_pos sdX8_node_44_5).symm.trans h
            refine w_tabIn (tgt := 145) G sdX8_node_44_5 dX8_node_44 (by decide) (by decide) rfl (by decide) ?_
            refine w_aload_n (pc2 := 146) G 0 rfl dX8_node_145 rfl rfl ?_
            refine w_iload_n (pc2 := 147) G 1 rfl dX8_node_146 rfl rfl ?_
            refine w_iload_n (pc2 := 148) G 2 rfl dX8_node_147 rfl rfl ?_
            obtain ⟨x13, H_x13, h⟩ := bs h
            refine w_cV0 (pc2 := 151) (ws2 := (wX8 E a o c_seed c_is c_sightOne c_sightOther c_sights c_pad c_padMany c_act c_which c_key c_other c_acts c_order c_digest c_tall c_had c_badAct c_badWhy c_alikeAct c_alikeTwo c_work c_isWorked c_trees c_from c_upTo c_shape c_kept c_isKept c_keptAt c_isWriting)) (As := [.int l1, .int l2]) (rest := []) G koX8_278 (r_X8_depthOf H_x13) (Nat.le_of_ble_eq_true rfl) 8 rfl rfl rfl rfl (Nat.le_of_ble_eq_true rfl) ⟨Nat.zero_le _, Nat.zero_le _⟩ dX8_node_148 rfl rfl ?_
            cases h
            exact w_iret G hQ rfl ⟨rfl, rfl⟩ dX8_node_151
          replace h := (if_neg sdX8_node_44_5).symm.trans h
          refine w_tabOut (tgt := 152) G dX8_node_44 (by have e0 := ne_ti sdX8_node_44_0; have e1 := ne_ti sdX8_node_44_1; have e2 := ne_ti sdX8_node_44_2; have e3 := ne_ti sdX8_node_44_3; have e4 := ne_ti sdX8_node_44_4; have e5 := ne_ti sdX8_node_44_5; rw [show (0 : Int32).toInt = 0 from rfl] at e0; rw [show (1 : Int32).toInt = 1 from rfl] at e1; rw [show (2 : Int32).toInt = 2 from rfl] at e2; rw [show (3 : Int32).toInt = 3 from rfl] at e3; rw [show (4 : Int32).toInt = 4 from rfl] at e4; rw [show (5 : Int32).toInt = 5 from rfl] at e5; omega) (by decide) ?_
          refine w_aload_n (pc2 := 153) G 0 rfl dX8_node_152 rfl rfl ?_
          refine w_get (pc2 := 156) G foX8_78 0 rfl rfl dX8_node_153 rfl ?_
          refine w_iload_n (pc2 := 157) G 2 rfl dX8_node_156 rfl rfl ?_
          obtain ⟨x14, H_x14, h⟩ := bs h
          refine w_cS0 (pc2 := 160) (As := [.int c_seed, .int l2]) (rest := []) G koX8_74 (r_X8_priorityBy H_x14) (Nat.le_of_ble_eq_true rfl) rfl rfl (Nat.le_of_ble_eq_true rfl) ⟨Nat.zero_le _, Nat.zero_le _⟩ dX8_node_157 rfl rfl ?_
          cases h
          exact w_iret G hQ rfl ⟨rfl, rfl⟩ dX8_node_160
        · replace h := (if_pos cc).symm.trans h
          refine w_bipush (pc2 := 42) G dX8_node_40 k_bipush_m3 rfl ?_
          cases h
          exact w_iret G hQ rfl ⟨rfl, rfl⟩ dX8_node_42
      · replace h := (if_pos cc).symm.trans h
        refine w_bipush (pc2 := 30) G dX8_node_28 k_bipush_m2 rfl ?_
        cases h
        exact w_iret G hQ rfl ⟨rfl, rfl⟩ dX8_node_30
    · replace h := (if_pos cc).symm.trans h
      refine w_iconst (pc2 := 15) G dX8_node_14 k_iconst_m1 rfl ?_
      cases h
      exact w_iret G hQ rfl ⟨rfl, rfl⟩ dX8_node_15

set_option maxHeartbeats 4000000 in
set_option maxRecDepth 100000 in
theorem lp_X8_place_21 {g : CX} {E : EV} {a : Nat → Nat} {o : Nat} {c_seed : Int32} {c_sightOne c_sightOther : Nat → Int32} {c_sights : Int32} {c_pad : Nat → Int32} {c_padMany : Int32} {c_act c_which c_key c_other : Nat → Int32} {c_acts : Int32} {c_order : Nat → Int32} {c_digest : Nat → Int64} {c_tall c_had : Nat → Int32} {c_badAct c_badWhy c_alikeAct c_alikeTwo c_work c_isWorked : Int32} {c_trees : Nat → Int64} {c_from c_upTo : Nat → Int32} {c_shape : Nat → Int64} {c_kept c_isKept : Nat → Int32} {c_keptAt c_isWriting : Int32}  (G : GG g E RX8 cX8_place 5 (some .int) 2 0 0) : ∀ (n : Nat) (c_is : Nat → Int32) (l1 : Int32) (l2 : Int32) (l3 : Int32) (l4 : Int32) (R : Int32), L_X8_place_21 n c_is l1 l2 l3 l4 = some R → WW g E 5 0 0 (wX8 E a o c_seed c_is c_sightOne c_sightOther c_sights c_pad c_padMany c_act c_which c_key c_other c_acts c_order c_digest c_tall c_had c_badAct c_badWhy c_alikeAct c_alikeTwo c_work c_isWorked c_trees c_from c_upTo c_shape c_kept c_isKept c_keptAt c_isWriting) [(3, .int R)] 48 [] → WW g E 5 0 0 (wX8 E a o c_seed c_is c_sightOne c_sightOther c_sights c_pad c_padMany c_act c_which c_key c_other c_acts c_order c_digest c_tall c_had c_badAct c_badWhy c_alikeAct c_alikeTwo c_work c_isWorked c_trees c_from c_upTo c_shape c_kept c_isKept c_keptAt c_isWriting) [(0, .ref (a o)), (1, .int l1), (2, .int l2), (3, .int l3), (4, .int l4)] 21 [] := by
  intro n
  induction n with
  | zero => intro c_is l1 l2 l3 l4 R h; exact no_some h
  | succ n ih =>
    intro c_is l1 l2 l3 l4 R h K
    rw [L_X8_place_21] at h
    refine w_iload (pc2 := 23) G 4 rfl dX8_place_21 rfl ?_
    refine w_iload_n (pc2 := 24) G 2 rfl dX8_place_23 rfl rfl ?_
    refine w_icmp_ge (tgt := 48) (pc2 := 27) G dX8_place_24 (by decide) rfl (fun cc => ?_) (fun cc => ?_)
    · replace h := (if_pos cc).symm.trans h
      cases h
      exact w_lv [3] rfl K
    · replace h := (if_neg cc).symm.trans h
      refine w_iload_n (pc2 := 28) G 3 rfl dX8_place_27 rfl rfl ?_
      refine w_aload_n (pc2 := 29) G 0 rfl dX8_place_28 rfl rfl ?_
      refine w_get (pc2 := 32) G foX8_7 0 rfl rfl dX8_place_29 rfl ?_
      refine w_bipush (pc2 := 34) G dX8_place_32 k_bipush_50 rfl ?_
      refine w_iload_n (pc2 := 35) G 1 rfl dX8_place_34 rfl rfl ?_
      refine w_imul (pc2 := 36) G dX8_place_35 rfl ?_
      refine w_iload (pc2 := 38) G 4 rfl dX8_place_36 rfl ?_
      refine w_iadd (pc2 := 39) G dX8_place_38 rfl ?_
      obtain ⟨v1, H_v1, h⟩ := bs h
      refine w_ialdo (pc2 := 40) G 1 rfl H_v1 dX8_place_39 rfl ?_
      refine w_iadd (pc2 := 41) G dX8_place_40 rfl ?_
      refine w_istore_n (pc2 := 42) (lv2 := [(3, .int (l3 + v1)), (0, .ref (a o)), (1, .int l1), (2, .int l2), (4, .int l4)]) G dX8_place_41 rfl (Nat.le_of_ble_eq_true rfl) rfl rfl ?_
      refine w_iinc (pc2 := 45) (lv2 := [(4, .int (l4 + (1 : Int32))), (3, .int (l3 + v1)), (0, .ref (a o)), (1, .int l1), (2, .int l2)]) G 4 rfl dX8_place_42 k_iconst_1 (Nat.le_of_ble_eq_true rfl) rfl rfl ?_
      refine w_goto (tgt := 21) G dX8_place_45 (by decide) ?_
      exact w_lv [2, 3, 4, 1, 0] rfl (ih _ _ _ _ _ _ h K)
set_option maxHeartbeats 4000000 in
set_option maxRecDepth 100000 in
theorem r_X8_place {l : Launch} {E : EV} {a : Nat → Nat} {o : Nat} {c_seed : Int32} {c_is c_sightOne c_sightOther : Nat → Int32} {c_sights : Int32} {c_pad : Nat → Int32} {c_padMany : Int32} {c_act c_which c_key c_other : Nat → Int32} {c_acts : Int32} {c_order : Nat → Int32} {c_digest : Nat → Int64} {c_tall c_had : Nat → Int32} {c_badAct c_badWhy c_alikeAct c_alikeTwo c_work c_isWorked : Int32} {c_trees : Nat → Int64} {c_from c_upTo : Nat → Int32} {c_shape : Nat → Int64} {c_kept c_isKept : Nat → Int32} {c_keptAt c_isWriting : Int32} {l1 : Int32} {l2 : Int32} {R : Int32} (h : f_X8_place c_is l1 l2 = some R) : Ret1 l E yX8_place cX8_place 5 (some .int) 2 (wX8 E a o c_seed c_is c_sightOne c_sightOther c_sights c_pad c_padMany c_act c_which c_key c_other c_acts c_order c_digest c_tall c_had c_badAct c_badWhy c_alikeAct c_alikeTwo c_work c_isWorked c_trees c_from c_upTo c_shape c_kept c_isKept c_keptAt c_isWriting) [.ref (a o), .int l1, .int l2] (some (.int R)) (wX8 E a o c_seed c_is c_sightOne c_sightOther c_sights c_pad c_padMany c_act c_which c_key c_other c_acts c_order c_digest c_tall c_had c_badAct c_badWhy c_alikeAct c_alikeTwo c_work c_isWorked c_trees c_from c_upTo c_shape c_kept c_isKept c_keptAt c_isWriting) := by
  refine Ret.intro (lv := [(0, .ref (a o)), (1, .int l1), (2, .int l2)]) (by decide) (Nat.le_of_ble_eq_true rfl) rfl ?_
  intro g hgl G hQ
  subst hgl
  rw [f_X8_place] at h
  refine w_iload_n (pc2 := 1) G 1 rfl dX8_place_0 rfl rfl ?_
  obtain ⟨x1, H_x1, h⟩ := bs h
  refine w_cS0 (pc2 := 4) (As := [.int l1]) (rest := []) G koX8_88 (r_X8_isSet H_x1) (Nat.le_of_ble_eq_true rfl) rfl rfl (Nat.le_of_ble_eq_true rfl) ⟨Nat.zero_le _, Nat.zero_le _⟩ dX8_place_1 rfl rfl ?_
  refine w_if_eq (tgt := 14) (pc2 := 7) G dX8_place_4 (by decide) rfl (fun cc => ?_) (fun cc => ?_)
  · replace h := (if_pos cc).symm.trans h
    refine w_iconst (pc2 := 15) G dX8_place_14 k_iconst_m1 rfl ?_
    cases h
    exact w_iret G hQ rfl ⟨rfl, rfl⟩ dX8_place_15
  · replace h := (if_neg cc).symm.trans h
    refine w_iload_n (pc2 := 8) G 2 rfl dX8_place_7 rfl rfl ?_
    obtain ⟨x2, H_x2, h⟩ := bs h
    refine w_cS0 (pc2 := 11) (As := [.int l2]) (rest := []) G koX8_92 (r_X8_isKey H_x2) (Nat.le_of_ble_eq_true rfl) rfl rfl (Nat.le_of_ble_eq_true rfl) ⟨Nat.zero_le _, Nat.zero_le _⟩ dX8_place_8 rfl rfl ?_
    refine w_if_ne (tgt := 16) (pc2 := 14) G dX8_place_11 (by decide) rfl (fun cc => ?_) (fun cc => ?_)
    · replace h := (if_neg cc).symm.trans h
      refine w_iconst (pc2 := 17) G dX8_place_16 k_iconst_0 rfl ?_
      refine w_istore_n (pc2 := 18) (lv2 := [(3, .int (0 : Int32)), (0, .ref (a o)), (1, .int l1), (2, .int l2)]) G dX8_place_17 rfl (Nat.le_of_ble_eq_true rfl) rfl rfl ?_
      refine w_iconst (pc2 := 19) G dX8_place_18 k_iconst_0 rfl ?_
      refine w_istore (pc2 := 21) (lv2 := [(4, .int (0 : Int32)), (3, .int (0 : Int32)), (0, .ref (a o)), (1, .int l1), (2, .int l2)]) G dX8_place_19 (Nat.le_of_ble_eq_true rfl) rfl rfl ?_
      obtain ⟨x3, h0, h⟩ := bs h
      have K_x3 : WW g E 5 0 0 (wX8 E a o c_seed c_is c_sightOne c_sightOther c_sights c_pad c_padMany c_act c_which c_key c_other c_acts c_order c_digest c_tall c_had c_badAct c_badWhy c_alikeAct c_alikeTwo c_work c_isWorked c_trees c_from c_upTo c_shape c_kept c_isKept c_keptAt c_isWriting) [(3, .int x3)] 48 [] := by
        clear h0
        refine w_iload_n (pc2 := 49) G 0 rfl dX8_place_48 rfl rfl ?_
        cases h
        exact w_iret G hQ rfl ⟨rfl, rfl⟩ dX8_place_49
      exact w_lv [2, 3, 4, 1, 0] rfl (lp_X8_place_21 G 20000 _ _ _ _ _ _ h0 (w_lv [0] rfl K_x3))
    · replace h := (if_pos cc).symm.trans h
      refine w_iconst (pc2 := 15) G dX8_place_14 k_iconst_m1 rfl ?_
      cases h
      exact w_iret G hQ rfl ⟨rfl, rfl⟩ dX8_place_15

set_option maxHeartbeats 4000000 in
set_option maxRecDepth 100000 in
theorem lp_X8_at_14 {g : CX} {E : EV} {a : Nat → Nat} {o : Nat} {c_seed : Int32} {c_sightOne c_sightOther : Nat → Int32} {c_sights : Int32} {c_pad : Nat → Int32} {c_padMany : Int32} {c_act c_which c_key c_other : Nat → Int32} {c_acts : Int32} {c_order : Nat → Int32} {c_digest : Nat → Int64} {c_tall c_had : Nat → Int32} {c_badAct c_badWhy c_alikeAct c_alikeTwo c_work c_isWorked : Int32} {c_trees : Nat → Int64} {c_from c_upTo : Nat → Int32} {c_shape : Nat → Int64} {c_kept c_isKept : Nat → Int32} {c_keptAt c_isWriting : Int32}  (G : GG g E RX8 cX8_at 5 (some .int) 2 0 0) {R : Int32} {c_is : Nat → Int32} (hQ : RQ g E 0 0 (fun v2 w2 => v2 = (some (.int R)) ∧ w2 = (wX8 E a o c_seed c_is c_sightOne c_sightOther c_sights c_pad c_padMany c_act c_which c_key c_other c_acts c_order c_digest c_tall c_had c_badAct c_badWhy c_alikeAct c_alikeTwo c_work c_isWorked c_trees c_from c_upTo c_shape c_kept c_isKept c_keptAt c_isWriting))) : ∀ (n : Nat) (l1 : Int32) (l2 : Int32) (l3 : Int32) (l4 : Int32), L_X8_at_14 n c_is l1 l2 l3 l4 = some R → WW g E 5 0 0 (wX8 E a o c_seed c_is c_sightOne c_sightOther c_sights c_pad c_padMany c_act c_which c_key c_other c_acts c_order c_digest c_tall c_had c_badAct c_badWhy c_alikeAct c_alikeTwo c_work c_isWorked c_trees c_from c_upTo c_shape c_kept c_isKept c_keptAt c_isWriting) [(0, .ref (a o)), (1, .int l1), (2, .int l2), (3, .int l3), (4, .int l4)] 14 [] := by
  intro n
  induction n with
  | zero => intro l1 l2 l3 l4 h; exact no_some h
  | succ n ih =>
    intro l1 l2 l3 l4 h
    rw [L_X8_at_14] at h
    refine w_iload (pc2 := 16) G 4 rfl dX8_at_14 rfl ?_
    refine w_bipush (pc2 := 18) G dX8_at_16 k_bipush_50 rfl ?_
    refine w_icmp_ge (tgt := 48) (pc2 := 21) G dX8_at_18 (by decide) rfl (fun cc => ?_) (fun cc => ?_)
    · replace h := (if_pos cc).symm.trans h
      refine w_bipush (pc2 := 50) G dX8_at_48 k_bipush_m6 rfl ?_
      cases h
      exact w_iret G hQ rfl ⟨rfl, rfl⟩ dX8_at_50
    · replace h := (if_neg cc).symm.trans h
      refine w_aload_n (pc2 := 22) G 0 rfl dX8_at_21 rfl rfl ?_
      refine w_iload_n (pc2 := 23) G 1 rfl dX8_at_22 rfl rfl ?_
      refine w_iload (pc2 := 25) G 4 rfl dX8_at_23 rfl ?_
      obtain ⟨x1, H_x1, h⟩ := bs h
      refine w_cV0 (pc2 := 28) (ws2 := (wX8 E a o c_seed c_is c_sightOne c_sightOther c_sights c_pad c_padMany c_act c_which c_key c_other c_acts c_order c_digest c_tall c_had c_badAct c_badWhy c_alikeAct c_alikeTwo c_work c_isWorked c_trees c_from c_upTo c_shape c_kept c_isKept c_keptAt c_isWriting)) (As := [.int l1, .int l4]) (rest := []) G koX8_95 (r_X8_has H_x1) (Nat.le_of_ble_eq_true rfl) 8 rfl rfl rfl rfl (Nat.le_of_ble_eq_true rfl) ⟨Nat.zero_le _, Nat.zero_le _⟩ dX8_at_25 rfl rfl ?_
      refine w_if_eq (tgt := 42) (pc2 := 31) G dX8_at_28 (by decide) rfl (fun cc => ?_) (fun cc => ?_)
      · replace h := (if_pos cc).symm.trans h
        refine w_iinc (pc2 := 45) (lv2 := [(4, .int (l4 + (1 : Int32))), (0, .ref (a o)), (1, .int l1), (2, .int l2), (3, .int l3)]) G 4 rfl dX8_at_42 k_iconst_1 (Nat.le_of_ble_eq_true rfl) rfl rfl ?_
        refine w_goto (tgt := 14) G dX8_at_45 (by decide) ?_
        exact w_lv [1, 2, 3, 4, 0] rfl (ih _ _ _ _ h )
      · replace h := (if_neg cc).symm.trans h
        refine w_iload_n (pc2 := 32) G 3 rfl dX8_at_31 rfl rfl ?_
        refine w_iload_n (pc2 := 33) G 2 rfl dX8_at_32 rfl rfl ?_
        refine w_icmp_ne (tgt := 39) (pc2 := 36) G dX8_at_33 (by decide) rfl (fun cc => ?_) (fun cc => ?_)
        · replace h := (if_neg cc).symm.trans h
          refine w_iinc (pc2 := 42) (lv2 := [(3, .int (l3 + (1 : Int32))), (0, .ref (a o)), (1, .int l1), (2, .int l2), (4, .int l4)]) G 3 rfl dX8_at_39 k_iconst_1 (Nat.le_of_ble_eq_true rfl) rfl rfl ?_
          refine w_iinc (pc2 := 45) (lv2 := [(4, .int (l4 + (1 : Int32))), (3, .int (l3 + (1 : Int32))), (0, .ref (a o)), (1, .int l1), (2, .int l2)]) G 4 rfl dX8_at_42 k_iconst_1 (Nat.le_of_ble_eq_true rfl) rfl rfl ?_
          refine w_goto (tgt := 14) G dX8_at_45 (by decide) ?_
          exact w_lv [2, 3, 4, 1, 0] rfl (ih _ _ _ _ h )
        · replace h := (if_pos cc).symm.trans h
          refine w_iload (pc2 := 38) G 4 rfl dX8_at_36 rfl ?_
          cases h
          exact w_iret G hQ rfl ⟨rfl, rfl⟩ dX8_at_38
set_option maxHeartbeats 4000000 in
set_option maxRecDepth 100000 in
theorem r_X8_at {l : Launch} {E : EV} {a : Nat → Nat} {o : Nat} {c_seed : Int32} {c_is c_sightOne c_sightOther : Nat → Int32} {c_sights : Int32} {c_pad : Nat → Int32} {c_padMany : Int32} {c_act c_which c_key c_other : Nat → Int32} {c_acts : Int32} {c_order : Nat → Int32} {c_digest : Nat → Int64} {c_tall c_had : Nat → Int32} {c_badAct c_badWhy c_alikeAct c_alikeTwo c_work c_isWorked : Int32} {c_trees : Nat → Int64} {c_from c_upTo : Nat → Int32} {c_shape : Nat → Int64} {c_kept c_isKept : Nat → Int32} {c_keptAt c_isWriting : Int32} {l1 : Int32} {l2 : Int32} {R : Int32} (h : f_X8_at c_is l1 l2 = some R) : Ret1 l E yX8_at cX8_at 5 (some .int) 2 (wX8 E a o c_seed c_is c_sightOne c_sightOther c_sights c_pad c_padMany c_act c_which c_key c_other c_acts c_order c_digest c_tall c_had c_badAct c_badWhy c_alikeAct c_alikeTwo c_work c_isWorked c_trees c_from c_upTo c_shape c_kept c_isKept c_keptAt c_isWriting) [.ref (a o), .int l1, .int l2] (some (.int R)) (wX8 E a o c_seed c_is c_sightOne c_sightOther c_sights c_pad c_padMany c_act c_which c_key c_other c_acts c_order c_digest c_tall c_had c_badAct c_badWhy c_alikeAct c_alikeTwo c_work c_isWorked c_trees c_from c_upTo c_shape c_kept c_isKept c_keptAt c_isWriting) := by
  refine Ret.intro (lv := [(0, .ref (a o)), (1, .int l1), (2, .int l2)]) (by decide) (Nat.le_of_ble_eq_true rfl) rfl ?_
  intro g hgl G hQ
  subst hgl
  rw [f_X8_at] at h
  refine w_iload_n (pc2 := 1) G 1 rfl dX8_at_0 rfl rfl ?_
  obtain ⟨x1, H_x1, h⟩ := bs h
  refine w_cS0 (pc2 := 4) (As := [.int l1]) (rest := []) G koX8_88 (r_X8_isSet H_x1) (Nat.le_of_ble_eq_true rfl) rfl rfl (Nat.le_of_ble_eq_true rfl) ⟨Nat.zero_le _, Nat.zero_le _⟩ dX8_at_1 rfl rfl ?_
  refine w_if_ne (tgt := 9) (pc2 := 7) G dX8_at_4 (by decide) rfl (fun cc => ?_) (fun cc => ?_)
  · replace h := (if_neg cc).symm.trans h
    refine w_iconst (pc2 := 10) G dX8_at_9 k_iconst_0 rfl ?_
    refine w_istore_n (pc2 := 11) (lv2 := [(3, .int (0 : Int32)), (0, .ref (a o)), (1, .int l1), (2, .int l2)]) G dX8_at_10 rfl (Nat.le_of_ble_eq_true rfl) rfl rfl ?_
    refine w_iconst (pc2 := 12) G dX8_at_11 k_iconst_0 rfl ?_
    refine w_istore (pc2 := 14) (lv2 := [(4, .int (0 : Int32)), (3, .int (0 : Int32)), (0, .ref (a o)), (1, .int l1), (2, .int l2)]) G dX8_at_12 (Nat.le_of_ble_eq_true rfl) rfl rfl ?_
    exact w_lv [2, 3, 4, 1, 0] rfl (lp_X8_at_14 G hQ 20000 _ _ _ _ h)
  · replace h := (if_pos cc).symm.trans h
    refine w_iconst (pc2 := 8) G dX8_at_7 k_iconst_m1 rfl ?_
    cases h
    exact w_iret G hQ rfl ⟨rfl, rfl⟩ dX8_at_8

set_option maxHeartbeats 4000000 in
set_option maxRecDepth 100000 in
theorem r_X8_partsAt {l : Launch} {E : EV} {a : Nat → Nat} {o : Nat} {c_seed : Int32} {c_is c_sightOne c_sightOther : Nat → Int32} {c_sights : Int32} {c_pad : Nat → Int32} {c_padMany : Int32} {c_act c_which c_key c_other : Nat → Int32} {c_acts : Int32} {c_order : Nat → Int32} {c_digest : Nat → Int64} {c_tall c_had : Nat → Int32} {c_badAct c_badWhy c_alikeAct c_alikeTwo c_work c_isWorked : Int32} {c_trees : Nat → Int64} {c_from c_upTo : Nat → Int32} {c_shape : Nat → Int64} {c_kept c_isKept : Nat → Int32} {c_keptAt c_isWriting : Int32} {l1 : Int32} {l2 : Int32} {l3 : Int32} {l4 : Int32} {R : Int32 × (Nat → Int32) × (Nat → Int64) × (Nat → Int32)} (h : f_X8_partsAt c_seed c_is c_order c_digest c_tall l1 l2 l3 l4 = some R) : Ret1 l E yX8_partsAt cX8_partsAt 7 (some .int) 6 (wX8 E a o c_seed c_is c_sightOne c_sightOther c_sights c_pad c_padMany c_act c_which c_key c_other c_acts c_order c_digest c_tall c_had c_badAct c_badWhy c_alikeAct c_alikeTwo c_work c_isWorked c_trees c_from c_upTo c_shape c_kept c_isKept c_keptAt c_isWriting) [.ref (a o), .int l1, .int l2, .int l3, .int l4] (some (.int R.1)) (wX8 E a o c_seed c_is c_sightOne c_sightOther c_sights c_pad c_padMany c_act c_which c_key c_other c_acts R.2.1 R.2.2.1 R.2.2.2 c_had c_badAct c_badWhy c_alikeAct c_alikeTwo c_work c_isWorked c_trees c_from c_upTo c_shape c_kept c_isKept c_keptAt c_isWriting) := by
  refine Ret.intro (lv := [(0, .ref (a o)), (1, .int l1), (2, .int l2), (3, .int l3), (4, .int l4)]) (by decide) (Nat.le_of_ble_eq_true rfl) rfl ?_
  intro g hgl G hQ
  subst hgl
  rw [f_X8_partsAt] at h
  refine w_aload_n (pc2 := 1) G 0 rfl dX8_partsAt_0 rfl rfl ?_
  refine w_iload_n (pc2 := 2) G 1 rfl dX8_partsAt_1 rfl rfl ?_
  refine w_iload_n (pc2 := 3) G 3 rfl dX8_partsAt_2 rfl rfl ?_
  refine w_iload (pc2 := 5) G 4 rfl dX8_partsAt_3 rfl ?_
  obtain ⟨x1, H_x1, h⟩ := bs h
  refine w_cV0 (pc2 := 8) (ws2 := (wX8 E a o c_seed c_is c_sightOne c_sightOther c_sights c_pad c_padMany c_act c_which c_key c_other c_acts c_order c_digest c_tall c_had c_badAct c_badWhy c_alikeAct c_alikeTwo c_work c_isWorked c_trees c_from c_upTo c_shape c_kept c_isKept c_keptAt c_isWriting)) (As := [.int l1, .int l3, .int l4]) (rest := []) G koX8_177 (r_X8_rootOf H_x1) (Nat.le_of_ble_eq_true rfl) 8 rfl rfl rfl rfl (Nat.le_of_ble_eq_true rfl) ⟨Nat.zero_le _, Nat.zero_le _⟩ dX8_partsAt_5 rfl rfl ?_
  refine w_istore (pc2 := 10) (lv2 := [(5, .int x1), (0, .ref (a o)), (1, .int l1), (2, .int l2), (3, .int l3), (4, .int l4)]) G dX8_partsAt_8 (Nat.le_of_ble_eq_true rfl) rfl rfl ?_
  refine w_aload_n (pc2 := 11) G 1 rfl dX8_partsAt_10 rfl rfl ?_
  refine w_iload_n (pc2 := 12) G 3 rfl dX8_partsAt_11 rfl rfl ?_
  refine w_iload_n (pc2 := 13) G 4 rfl dX8_partsAt_12 rfl rfl ?_
  refine w_iload (pc2 := 15) G 5 rfl dX8_partsAt_13 rfl ?_
  obtain ⟨x2, H_x2, h⟩ := bs h
  refine w_cV0 (pc2 := 18) (ws2 := (wX8 E a o c_seed c_is c_sightOne c_sightOther c_sights c_pad c_padMany c_act c_which c_key c_other c_acts c_order c_digest c_tall c_had c_badAct c_badWhy c_alikeAct c_alikeTwo c_work c_isWorked c_trees c_from c_upTo c_shape c_kept c_isKept c_keptAt c_isWriting)) (As := [.int l2, .int l3, .int l4]) (rest := []) G koX8_177 (r_X8_rootOf H_x2) (Nat.le_of_ble_eq_true rfl) 8 rfl rfl rfl rfl (Nat.le_of_ble_eq_true rfl) ⟨Nat.zero_le _, Nat.zero_le _⟩ dX8_partsAt_15 rfl rfl ?_
  refine w_istore (pc2 := 20) (lv2 := [(6, .int x2), (5, .int x1), (0, .ref (a o)), (1, .int l1), (2, .int l2), (3, .int l3), (4, .int l4)]) G dX8_partsAt_18 (Nat.le_of_ble_eq_true rfl) rfl rfl ?_
  refine w_iload (pc2 := 22) G 1 rfl dX8_partsAt_20 rfl ?_
  refine w_if_lt (tgt := 49) (pc2 := 25) G dX8_partsAt_22 (by decide) rfl (fun cc => ?_) (fun cc => ?_)
  · replace h := (if_pos cc).symm.trans h
    refine w_bipush (pc2 := 51) G dX8_partsAt_49 k_bipush_m6 rfl ?_
    cases h
    exact w_iret G hQ rfl ⟨rfl, rfl⟩ dX8_partsAt_51
  · replace h := (if_neg cc).symm.trans h
    refine w_iload (pc2 := 27) G 0 rfl dX8_partsAt_25 rfl ?_
    refine w_if_lt (tgt := 49) (pc2 := 30) G dX8_partsAt_27 (by decide) rfl (fun cc => ?_) (fun cc => ?_)
    · replace h := (if_pos cc).symm.trans h
      refine w_bipush (pc2 := 51) G dX8_partsAt_49 k_bipush_m6 rfl ?_
      cases h
      exact w_iret G hQ rfl ⟨rfl, rfl⟩ dX8_partsAt_51
    · replace h := (if_neg cc).symm.trans h
      refine w_aload_n (pc2 := 31) G 2 rfl dX8_partsAt_30 rfl rfl ?_
      refine w_iload_n (pc2 := 32) G 3 rfl dX8_partsAt_31 rfl rfl ?_
      refine w_iload_n (pc2 := 33) G 5 rfl dX8_partsAt_32 rfl rfl ?_
      refine w_iload (pc2 := 35) G 6 rfl dX8_partsAt_33 rfl ?_
      obtain ⟨x3, H_x3, h⟩ := bs h
      refine w_cV0 (pc2 := 38) (ws2 := (wX8 E a o c_seed c_is c_sightOne c_sightOther c_sights c_pad c_padMany c_act c_which c_key c_other c_acts x3.2.1 x3.2.2.1 x3.2.2.2 c_had c_badAct c_badWhy c_alikeAct c_alikeTwo c_work c_isWorked c_trees c_from c_upTo c_shape c_kept c_isKept c_keptAt c_isWriting)) (As := [.int l1, .int l3, .int l4]) (rest := []) G koX8_260 (r_X8_digestOf H_x3) (Nat.le_of_ble_eq_true rfl) 8 rfl rfl rfl rfl (Nat.le_of_ble_eq_true rfl) ⟨Nat.zero_le _, Nat.zero_le _⟩ dX8_partsAt_35 rfl rfl ?_
      refine w_aload_n (pc2 := 39) G 2 rfl dX8_partsAt_38 rfl rfl ?_
      refine w_iload_n (pc2 := 40) G 4 rfl dX8_partsAt_39 rfl rfl ?_
      refine w_iload_n (pc2 := 41) G 5 rfl dX8_partsAt_40 rfl rfl ?_
      refine w_iload (pc2 := 43) G 6 rfl dX8_partsAt_41 rfl ?_
      obtain ⟨x4, H_x4, h⟩ := bs h
      refine w_cV0 (pc2 := 46) (ws2 := (wX8 E a o c_seed c_is c_sightOne c_sightOther c_sights c_pad c_padMany c_act c_which c_key c_other c_acts x4.2.1 x4.2.2.1 x4.2.2.2 c_had c_badAct c_badWhy c_alikeAct c_alikeTwo c_work c_isWorked c_trees c_from c_upTo c_shape c_kept c_isKept c_keptAt c_isWriting)) (As := [.int l2, .int l3, .int l4]) (rest := [.int x3.1]) G koX8_260 (r_X8_digestOf H_x4) (Nat.le_of_ble_eq_true rfl) 8 rfl rfl rfl rfl (Nat.le_of_ble_eq_true rfl) ⟨Nat.zero_le _, Nat.zero_le _⟩ dX8_partsAt_43 rfl rfl ?_
      refine w_icmp_ne (tgt := 52) (pc2 := 49) G dX8_partsAt_46 (by decide) rfl (fun cc => ?_) (fun cc => ?_)
      · replace h := (if_neg cc).symm.trans h
        refine w_iload (pc2 := 54) G 1 rfl dX8_partsAt_52 rfl ?_
        refine w_iload (pc2 := 56) G 0 rfl dX8_partsAt_54 rfl ?_
        refine w_icmp_eq (tgt := 70) (pc2 := 59) G dX8_partsAt_56 (by decide) rfl (fun cc => ?_) (fun cc => ?_)
        · replace h := (if_pos cc).symm.trans h
          refine w_iload (pc2 := 72) G 1 rfl dX8_partsAt_70 rfl ?_
          refine w_goto (tgt := 77) G dX8_partsAt_72 (by decide) ?_
          cases h
          exact w_iret G hQ rfl ⟨rfl, rfl⟩ dX8_partsAt_77
        · replace h := (if_neg cc).symm.trans h
          refine w_aload_n (pc2 := 60) G 2 rfl dX8_partsAt_59 rfl rfl ?_
          refine w_iload (pc2 := 62) G 1 rfl dX8_partsAt_60 rfl ?_
          refine w_iload (pc2 := 64) G 0 rfl dX8_partsAt_62 rfl ?_
          obtain ⟨x5, H_x5, h⟩ := bs h
          refine w_cV0 (pc2 := 67) (ws2 := (wX8 E a o c_seed c_is c_sightOne c_sightOther c_sights c_pad c_padMany c_act c_which c_key c_other c_acts x4.2.1 x4.2.2.1 x4.2.2.2 c_had c_badAct c_badWhy c_alikeAct c_alikeTwo c_work c_isWorked c_trees c_from c_upTo c_shape c_kept c_isKept c_keptAt c_isWriting)) (As := [.int x1, .int x2]) (rest := []) G koX8_168 (r_X8_ranks H_x5) (Nat.le_of_ble_eq_true rfl) 8 rfl rfl rfl rfl (Nat.le_of_ble_eq_true rfl) ⟨Nat.zero_le _, Nat.zero_le _⟩ dX8_partsAt_64 rfl rfl ?_
          refine w_if_eq (tgt := 75) (pc2 := 70) G dX8_partsAt_67 (by decide) rfl (fun cc => ?_) (fun cc => ?_)
          · replace h := (if_pos cc).symm.trans h
            refine w_iload (pc2 := 77) G 0 rfl dX8_partsAt_75 rfl ?_
            cases h
            exact w_iret G hQ rfl ⟨rfl, rfl⟩ dX8_partsAt_77
          · replace h := (if_neg cc).symm.trans h
            refine w_iload (pc2 := 72) G 1 rfl dX8_partsAt_70 rfl ?_
            refine w_goto (tgt := 77) G dX8_partsAt_72 (by decide) ?_
            cases h
            exact w_iret G hQ rfl ⟨rfl, rfl⟩ dX8_partsAt_77
      · replace h := (if_pos cc).symm.trans h
        refine w_bipush (pc2 := 51) G dX8_partsAt_49 k_bipush_m6 rfl ?_
        cases h
        exact w_iret G hQ rfl ⟨rfl, rfl⟩ dX8_partsAt_51

set_option maxHeartbeats 4000000 in
set_option maxRecDepth 100000 in
theorem lp_X8_looks_20 {g : CX} {E : EV} {a : Nat → Nat} {o : Nat} {c_sightOne c_sightOther : Nat → Int32} {c_sights : Int32} {c_pad : Nat → Int32} {c_padMany : Int32} {c_act c_which c_key c_other : Nat → Int32} {c_acts : Int32} {c_had : Nat → Int32} {c_badAct c_badWhy c_alikeAct c_alikeTwo c_work c_isWorked : Int32} {c_trees c_shape : Nat → Int64} {c_kept c_isKept : Nat → Int32} {c_keptAt c_isWriting : Int32}  (G : GG g E RX8 cX8_looks 8 (some .int) 7 0 0) : ∀ (n : Nat) (c_seed : Int32) (c_is : Nat → Int32) (c_order : Nat → Int32) (c_digest : Nat → Int64) (c_tall : Nat → Int32) (c_from : Nat → Int32) (c_upTo : Nat → Int32) (l1 : Int32) (l2 : Int32) (l3 : Int32) (l4 : Int32) (R : Int32 × (Nat → Int32) × (Nat → Int64) × (Nat → Int32) × (Nat → Int32) × (Nat → Int32)), L_X8_looks_20 n c_seed c_is c_order c_digest c_tall c_from c_upTo l1 l2 l3 l4 = some R → WW g E 8 0 0 (wX8 E a o c_seed c_is c_sightOne c_sightOther c_sights c_pad c_padMany c_act c_which c_key c_other c_acts R.2.1 R.2.2.1 R.2.2.2.1 c_had c_badAct c_badWhy c_alikeAct c_alikeTwo c_work c_isWorked c_trees R.2.2.2.2.1 R.2.2.2.2.2 c_shape c_kept c_isKept c_keptAt c_isWriting) [(3, .int R.1)] 116 [] → WW g E 8 0 0 (wX8 E a o c_seed c_is c_sightOne c_sightOther c_sights c_pad c_padMany c_act c_which c_key c_other c_acts c_order c_digest c_tall c_had c_badAct c_badWhy c_alikeAct c_alikeTwo c_work c_isWorked c_trees c_from c_upTo c_shape c_kept c_isKept c_keptAt c_isWriting) [(0, .ref (a o)), (1, .int l1), (2, .int l2), (3, .int l3), (4, .int l4)] 20 [] := by
  intro n
  induction n with
  | zero => intro c_seed c_is c_order c_digest c_tall c_from c_upTo l1 l2 l3 l4 R h; exact no_some h
  | succ n ih =>
    intro c_seed c_is c_order c_digest c_tall c_from c_upTo l1 l2 l3 l4 R h K
    rw [L_X8_looks_20] at h
    refine w_iload (pc2 := 22) G 4 rfl dX8_looks_20 rfl ?_
    refine w_if_le (tgt := 116) (pc2 := 25) G dX8_looks_22 (by decide) rfl (fun cc => ?_) (fun cc => ?_)
    · replace h := (if_pos cc).symm.trans h
      cases h
      exact w_lv [3] rfl K
    · replace h := (if_neg cc).symm.trans h
      refine w_iinc (pc2 := 28) (lv2 := [(4, .int (l4 + (-1 : Int32))), (0, .ref (a o)), (1, .int l1), (2, .int l2), (3, .int l3)]) G 4 rfl dX8_looks_25 k_iconst_m1 (Nat.le_of_ble_eq_true rfl) rfl rfl ?_
      refine w_iinc (pc2 := 31) (lv2 := [(3, .int (l3 + (1 : Int32))), (4, .int (l4 + (-1 : Int32))), (0, .ref (a o)), (1, .int l1), (2, .int l2)]) G 4 rfl dX8_looks_28 k_iconst_1 (Nat.le_of_ble_eq_true rfl) rfl rfl ?_
      refine w_aload_n (pc2 := 32) G 2 rfl dX8_looks_31 rfl rfl ?_
      refine w_get (pc2 := 35) G foX8_50 0 rfl rfl dX8_looks_32 rfl ?_
      refine w_iload (pc2 := 37) G 1 rfl dX8_looks_35 rfl ?_
      obtain ⟨v1, H_v1, h⟩ := bs h
      refine w_ialdo (pc2 := 38) G 14 rfl H_v1 dX8_looks_37 rfl ?_
      refine w_istore (pc2 := 40) (lv2 := [(5, .int v1), (3, .int (l3 + (1 : Int32))), (4, .int (l4 + (-1 : Int32))), (0, .ref (a o)), (1, .int l1), (2, .int l2)]) G dX8_looks_38 (Nat.le_of_ble_eq_true rfl) rfl rfl ?_
      refine w_aload_n (pc2 := 41) G 3 rfl dX8_looks_40 rfl rfl ?_
      refine w_get (pc2 := 44) G foX8_53 0 rfl rfl dX8_looks_41 rfl ?_
      refine w_iload (pc2 := 46) G 2 rfl dX8_looks_44 rfl ?_
      obtain ⟨v2, H_v2, h⟩ := bs h
      refine w_ialdo (pc2 := 47) G 15 rfl H_v2 dX8_looks_46 rfl ?_
      refine w_istore (pc2 := 49) (lv2 := [(6, .int v2), (5, .int v1), (3, .int (l3 + (1 : Int32))), (4, .int (l4 + (-1 : Int32))), (0, .ref (a o)), (1, .int l1), (2, .int l2)]) G dX8_looks_47 (Nat.le_of_ble_eq_true rfl) rfl rfl ?_
      refine w_aload_n (pc2 := 50) G 4 rfl dX8_looks_49 rfl rfl ?_
      refine w_iload_n (pc2 := 51) G 5 rfl dX8_looks_50 rfl rfl ?_
      refine w_iload_n (pc2 := 52) G 6 rfl dX8_looks_51 rfl rfl ?_
      refine w_iload (pc2 := 54) G 1 rfl dX8_looks_52 rfl ?_
      refine w_iload (pc2 := 56) G 0 rfl dX8_looks_54 rfl ?_
      obtain ⟨x3, H_x3, h⟩ := bs h
      refine w_cV0 (pc2 := 59) (ws2 := (wX8 E a o c_seed c_is c_sightOne c_sightOther c_sights c_pad c_padMany c_act c_which c_key c_other c_acts x3.2.1 x3.2.2.1 x3.2.2.2 c_had c_badAct c_badWhy c_alikeAct c_alikeTwo c_work c_isWorked c_trees c_from c_upTo c_shape c_kept c_isKept c_keptAt c_isWriting)) (As := [.int l1, .int l2, .int v1, .int v2]) (rest := []) G koX8_281 (r_X8_partsAt H_x3) (Nat.le_of_ble_eq_true rfl) 8 rfl rfl rfl rfl (Nat.le_of_ble_eq_true rfl) ⟨Nat.zero_le _, Nat.zero_le _⟩ dX8_looks_56 rfl rfl ?_
      refine w_istore (pc2 := 61) (lv2 := [(7, .int x3.1), (6, .int v2), (5, .int v1), (3, .int (l3 + (1 : Int32))), (4, .int (l4 + (-1 : Int32))), (0, .ref (a o)), (1, .int l1), (2, .int l2)]) G dX8_looks_59 (Nat.le_of_ble_eq_true rfl) rfl rfl ?_
      refine w_iload (pc2 := 63) G 0 rfl dX8_looks_61 rfl ?_
      refine w_if_lt (tgt := 113) (pc2 := 66) G dX8_looks_63 (by decide) rfl (fun cc => ?_) (fun cc => ?_)
      · replace h := (if_pos cc).symm.trans h
        refine w_goto (tgt := 20) G dX8_looks_113 (by decide) ?_
        exact w_lv [5, 6, 7, 3, 4] rfl (ih _ _ _ _ _ _ _ _ _ _ _ _ h K)
      · replace h := (if_neg cc).symm.trans h
        refine w_aload_n (pc2 := 67) G 5 rfl dX8_looks_66 rfl rfl ?_
        refine w_get (pc2 := 70) G foX8_50 0 rfl rfl dX8_looks_67 rfl ?_
        refine w_iload (pc2 := 72) G 4 rfl dX8_looks_70 rfl ?_
        refine w_iload (pc2 := 74) G 2 rfl dX8_looks_72 rfl ?_
        obtain ⟨f4, H_f4, h⟩ := bs h
        refine w_iasto (pc2 := 75) (ws2 := (wX8 E a o c_seed c_is c_sightOne c_sightOther c_sights c_pad c_padMany c_act c_which c_key c_other c_acts x3.2.1 x3.2.2.1 x3.2.2.2 c_had c_badAct c_badWhy c_alikeAct c_alikeTwo c_work c_isWorked c_trees f4 c_upTo c_shape c_kept c_isKept c_keptAt c_isWriting)) G 14 rfl H_f4 rfl dX8_looks_74 rfl ?_
        refine w_aload_n (pc2 := 76) G 5 rfl dX8_looks_75 rfl rfl ?_
        refine w_get (pc2 := 79) G foX8_53 0 rfl rfl dX8_looks_76 rfl ?_
        refine w_iload (pc2 := 81) G 4 rfl dX8_looks_79 rfl ?_
        refine w_iload (pc2 := 83) G 0 rfl dX8_looks_81 rfl ?_
        refine w_iconst (pc2 := 84) G dX8_looks_83 k_iconst_1 rfl ?_
        refine w_isub (pc2 := 85) G dX8_looks_84 rfl ?_
        obtain ⟨f5, H_f5, h⟩ := bs h
        refine w_iasto (pc2 := 86) (ws2 := (wX8 E a o c_seed c_is c_sightOne c_sightOther c_sights c_pad c_padMany c_act c_which c_key c_other c_acts x3.2.1 x3.2.2.1 x3.2.2.2 c_had c_badAct c_badWhy c_alikeAct c_alikeTwo c_work c_isWorked c_trees f4 f5 c_shape c_kept c_isKept c_keptAt c_isWriting)) G 15 rfl H_f5 rfl dX8_looks_85 rfl ?_
        refine w_aload_n (pc2 := 87) G 5 rfl dX8_looks_86 rfl rfl ?_
        refine w_get (pc2 := 90) G foX8_50 0 rfl rfl dX8_looks_87 rfl ?_
        refine w_iload (pc2 := 92) G 4 rfl dX8_looks_90 rfl ?_
        refine w_iconst (pc2 := 93) G dX8_looks_92 k_iconst_1 rfl ?_
        refine w_iadd (pc2 := 94) G dX8_looks_93 rfl ?_
        refine w_iload (pc2 := 96) G 0 rfl dX8_looks_94 rfl ?_
        refine w_iconst (pc2 := 97) G dX8_looks_96 k_iconst_1 rfl ?_
        refine w_iadd (pc2 := 98) G dX8_looks_97 rfl ?_
        obtain ⟨f6, H_f6, h⟩ := bs h
        refine w_iasto (pc2 := 99) (ws2 := (wX8 E a o c_seed c_is c_sightOne c_sightOther c_sights c_pad c_padMany c_act c_which c_key c_other c_acts x3.2.1 x3.2.2.1 x3.2.2.2 c_had c_badAct c_badWhy c_alikeAct c_alikeTwo c_work c_isWorked c_trees f6 f5 c_shape c_kept c_isKept c_keptAt c_isWriting)) G 14 rfl H_f6 rfl dX8_looks_98 rfl ?_
        refine w_aload_n (pc2 := 100) G 5 rfl dX8_looks_99 rfl rfl ?_
        refine w_get (pc2 := 103) G foX8_53 0 rfl rfl dX8_looks_100 rfl ?_
        refine w_iload (pc2 := 105) G 4 rfl dX8_looks_103 rfl ?_
        refine w_iconst (pc2 := 106) G dX8_looks_105 k_iconst_1 rfl ?_
        refine w_iadd (pc2 := 107) G dX8_looks_106 rfl ?_
        refine w_iload (pc2 := 109) G 1 rfl dX8_looks_107 rfl ?_
        obtain ⟨f7, H_f7, h⟩ := bs h
        refine w_iasto (pc2 := 110) (ws2 := (wX8 E a o c_seed c_is c_sightOne c_sightOther c_sights c_pad c_padMany c_act c_which c_key c_other c_acts x3.2.1 x3.2.2.1 x3.2.2.2 c_had c_badAct c_badWhy c_alikeAct c_alikeTwo c_work c_isWorked c_trees f6 f7 c_shape c_kept c_isKept c_keptAt c_isWriting)) G 15 rfl H_f7 rfl dX8_looks_109 rfl ?_
        refine w_iinc (pc2 := 113) (lv2 := [(4, .int ((l4 + (-1 : Int32)) + (2 : Int32))), (7, .int x3.1), (6, .int v2), (5, .int v1), (3, .int (l3 + (1 : Int32))), (0, .ref (a o)), (1, .int l1), (2, .int l2)]) G 4 rfl dX8_looks_110 k_iconst_2 (Nat.le_of_ble_eq_true rfl) rfl rfl ?_
        refine w_goto (tgt := 20) G dX8_looks_113 (by decide) ?_
        exact w_lv [5, 6, 7, 4, 0] rfl (ih _ _ _ _ _ _ _ _ _ _ _ _ h K)
set_option maxHeartbeats 4000000 in
set_option maxRecDepth 100000 in
theorem r_X8_looks {l : Launch} {E : EV} {a : Nat → Nat} {o : Nat} {c_seed : Int32} {c_is c_sightOne c_sightOther : Nat → Int32} {c_sights : Int32} {c_pad : Nat → Int32} {c_padMany : Int32} {c_act c_which c_key c_other : Nat → Int32} {c_acts : Int32} {c_order : Nat → Int32} {c_digest : Nat → Int64} {c_tall c_had : Nat → Int32} {c_badAct c_badWhy c_alikeAct c_alikeTwo c_work c_isWorked : Int32} {c_trees : Nat → Int64} {c_from c_upTo : Nat → Int32} {c_shape : Nat → Int64} {c_kept c_isKept : Nat → Int32} {c_keptAt c_isWriting : Int32} {l1 : Int32} {l2 : Int32} {R : Int32 × (Nat → Int32) × (Nat → Int64) × (Nat → Int32) × (Nat → Int32) × (Nat → Int32)} (h : f_X8_looks c_seed c_is c_order c_digest c_tall c_from c_upTo l1 l2 = some R) : Ret1 l E yX8_looks cX8_looks 8 (some .int) 7 (wX8 E a o c_seed c_is c_sightOne c_sightOther c_sights c_pad c_padMany c_act c_which c_key c_other c_acts c_order c_digest c_tall c_had c_badAct c_badWhy c_alikeAct c_alikeTwo c_work c_isWorked c_trees c_from c_upTo c_shape c_kept c_isKept c_keptAt c_isWriting) [.ref (a o), .int l1, .int l2] (some (.int R.1)) (wX8 E a o c_seed c_is c_sightOne c_sightOther c_sights c_pad c_padMany c_act c_which c_key c_other c_acts R.2.1 R.2.2.1 R.2.2.2.1 c_had c_badAct c_badWhy c_alikeAct c_alikeTwo c_work c_isWorked c_trees R.2.2.2.2.1 R.2.2.2.2.2 c_shape c_kept c_isKept c_keptAt c_isWriting) := by
  refine Ret.intro (lv := [(0, .ref (a o)), (1, .int l1), (2, .int l2)]) (by decide) (Nat.le_of_ble_eq_true rfl) rfl ?_
  intro g hgl G hQ
  subst hgl
  rw [f_X8_looks] at h
  refine w_iconst (pc2 := 1) G dX8_looks_0 k_iconst_0 rfl ?_
  refine w_istore_n (pc2 := 2) (lv2 := [(3, .int (0 : Int32)), (0, .ref (a o)), (1, .int l1), (2, .int l2)]) G dX8_looks_1 rfl (Nat.le_of_ble_eq_true rfl) rfl rfl ?_
  refine w_iconst (pc2 := 3) G dX8_looks_2 k_iconst_1 rfl ?_
  refine w_istore (pc2 := 5) (lv2 := [(4, .int (1 : Int32)), (3, .int (0 : Int32)), (0, .ref (a o)), (1, .int l1), (2, .int l2)]) G dX8_looks_3 (Nat.le_of_ble_eq_true rfl) rfl rfl ?_
  refine w_aload_n (pc2 := 6) G 2 rfl dX8_looks_5 rfl rfl ?_
  refine w_get (pc2 := 9) G foX8_50 0 rfl rfl dX8_looks_6 rfl ?_
  refine w_iconst (pc2 := 10) G dX8_looks_9 k_iconst_0 rfl ?_
  refine w_iconst (pc2 := 11) G dX8_looks_10 k_iconst_0 rfl ?_
  obtain ⟨f1, H_f1, h⟩ := bs h
  refine w_iasto (pc2 := 12) (ws2 := (wX8 E a o c_seed c_is c_sightOne c_sightOther c_sights c_pad c_padMany c_act c_which c_key c_other c_acts c_order c_digest c_tall c_had c_badAct c_badWhy c_alikeAct c_alikeTwo c_work c_isWorked c_trees f1 c_upTo c_shape c_kept c_isKept c_keptAt c_isWriting)) G 14 rfl H_f1 rfl dX8_looks_11 rfl ?_
  refine w_aload_n (pc2 := 13) G 2 rfl dX8_looks_12 rfl rfl ?_
  refine w_get (pc2 := 16) G foX8_53 0 rfl rfl dX8_looks_13 rfl ?_
  refine w_iconst (pc2 := 17) G dX8_looks_16 k_iconst_0 rfl ?_
  refine w_bipush (pc2 := 19) G dX8_looks_17 k_bipush_49 rfl ?_
  obtain ⟨f2, H_f2, h⟩ := bs h
  refine w_iasto (pc2 := 20) (ws2 := (wX8 E a o c_seed c_is c_sightOne c_sightOther c_sights c_pad c_padMany c_act c_which c_key c_other c_acts c_order c_digest c_tall c_had c_badAct c_badWhy c_alikeAct c_alikeTwo c_work c_isWorked c_trees f1 f2 c_shape c_kept c_isKept c_keptAt c_isWriting)) G 15 rfl H_f2 rfl dX8_looks_19 rfl ?_
  obtain ⟨x3, h0, h⟩ := bs h
  have K_x3 : WW g E 8 0 0 (wX8 E a o c_seed c_is c_sightOne c_sightOther c_sights c_pad c_padMany c_act c_which c_key c_other c_acts x3.2.1 x3.2.2.1 x3.2.2.2.1 c_had c_badAct c_badWhy c_alikeAct c_alikeTwo c_work c_isWorked c_trees x3.2.2.2.2.1 x3.2.2.2.2.2 c_shape c_kept c_isKept c_keptAt c_isWriting) [(3, .int x3.1)] 116 [] := by
    clear h0
    refine w_iload_n (pc2 := 117) G 0 rfl dX8_looks_116 rfl rfl ?_
    cases h
    exact w_iret G hQ rfl ⟨rfl, rfl⟩ dX8_looks_117
  exact w_lv [2, 3, 4, 1, 0] rfl (lp_X8_looks_20 G 20000 _ _ _ _ _ _ _ _ _ _ _ _ h0 (w_lv [0] rfl K_x3))
