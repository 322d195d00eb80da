set_option maxHeartbeats 4000000 in
set_option maxRecDepth 100000 in
theorem r_X8_pass {l : Launch} {E : EV} {a : Nat → Nat} {o : Nat} {c_seed : Int32} {c_is c_sightOne c_sightOther : Nat → Int32} {c_sights : Int32} {c_pad : Nat → Int32} {c_padMany : Int32} {c_act c_which c_key c_other : Nat → Int32} {c_acts : Int32} {c_order : Nat → Int32} {c_digest : Nat → Int64} {c_tall c_had : Nat → Int32} {c_badAct c_badWhy c_alikeAct c_alikeTwo c_work c_isWorked : Int32} {c_trees : Nat → Int64} {c_from c_upTo : Nat → Int32} {c_shape : Nat → Int64} {c_kept c_isKept : Nat → Int32} {c_keptAt c_isWriting : Int32} {l1 : Int32} {R : Int32 × (Nat → Int32) × Int32} (h : f_X8_pass c_kept c_keptAt c_isWriting l1 = some R) : Ret1 l E yX8_pass cX8_pass 3 (some .int) 0 (wX8 E a o c_seed c_is c_sightOne c_sightOther c_sights c_pad c_padMany c_act c_which c_key c_other c_acts c_order c_digest c_tall c_had c_badAct c_badWhy c_alikeAct c_alikeTwo c_work c_isWorked c_trees c_from c_upTo c_shape c_kept c_isKept c_keptAt c_isWriting) [.ref (a o), .int l1] (some (.int R.1)) (wX8 E a o c_seed c_is c_sightOne c_sightOther c_sights c_pad c_padMany c_act c_which c_key c_other c_acts c_order c_digest c_tall c_had c_badAct c_badWhy c_alikeAct c_alikeTwo c_work c_isWorked c_trees c_from c_upTo c_shape R.2.1 c_isKept R.2.2 c_isWriting) := by
  refine Ret.intro (lv := [(0, .ref (a o)), (1, .int l1)]) (by decide) (Nat.le_of_ble_eq_true rfl) rfl ?_
  intro g hgl G hQ
  subst hgl
  rw [f_X8_pass] at h
  refine w_aload_n (pc2 := 1) G 0 rfl dX8_pass_0 rfl rfl ?_
  refine w_get (pc2 := 4) G foX8_330 0 rfl rfl dX8_pass_1 rfl ?_
  obtain ⟨x2, h0, h⟩ := bs h
  have K_x2 : WW g E 3 0 0 (wX8 E a o c_seed c_is c_sightOne c_sightOther c_sights c_pad c_padMany c_act c_which c_key c_other c_acts c_order c_digest c_tall c_had c_badAct c_badWhy c_alikeAct c_alikeTwo c_work c_isWorked c_trees c_from c_upTo c_shape c_kept c_isKept c_keptAt c_isWriting) [(0, .ref (a o))] 20 [.int x2] := by
    clear h0
    refine w_istore_n (pc2 := 21) (lv2 := [(2, .int x2), (0, .ref (a o))]) G dX8_pass_20 rfl (Nat.le_of_ble_eq_true rfl) rfl rfl ?_
    refine w_aload_n (pc2 := 22) G 1 rfl dX8_pass_21 rfl rfl ?_
    refine w_get (pc2 := 25) G foX8_59 0 rfl rfl dX8_pass_22 rfl ?_
    refine w_aload_n (pc2 := 26) G 1 rfl dX8_pass_25 rfl rfl ?_
    refine w_get (pc2 := 29) G foX8_333 0 rfl rfl dX8_pass_26 rfl ?_
    refine w_iload_n (pc2 := 30) G 0 rfl dX8_pass_29 rfl rfl ?_
    obtain ⟨f3, H_f3, h⟩ := bs h
    refine w_iasto (pc2 := 31) (ws2 := (wX8 E a o c_seed c_is c_sightOne c_sightOther c_sights c_pad c_padMany c_act c_which c_key c_other c_acts c_order c_digest c_tall c_had c_badAct c_badWhy c_alikeAct c_alikeTwo c_work c_isWorked c_trees c_from c_upTo c_shape f3 c_isKept c_keptAt c_isWriting)) G 17 rfl H_f3 rfl dX8_pass_30 rfl ?_
    refine w_aload_n (pc2 := 32) G 1 rfl dX8_pass_31 rfl rfl ?_
    refine w_dup (pc2 := 33) G dX8_pass_32 rfl rfl ?_
    refine w_get (pc2 := 36) G foX8_333 0 rfl rfl dX8_pass_33 rfl ?_
    refine w_iconst (pc2 := 37) G dX8_pass_36 k_iconst_1 rfl ?_
    refine w_iadd (pc2 := 38) G dX8_pass_37 rfl ?_
    refine w_put (pc2 := 41) (ws2 := (wX8 E a o c_seed c_is c_sightOne c_sightOther c_sights c_pad c_padMany c_act c_which c_key c_other c_acts c_order c_digest c_tall c_had c_badAct c_badWhy c_alikeAct c_alikeTwo c_work c_isWorked c_trees c_from c_upTo c_shape f3 c_isKept (c_keptAt + (1 : Int32)) c_isWriting)) G foX8_333 tokX8 0 rfl rfl rfl rfl (Nat.le_of_ble_eq_true rfl) rfl dX8_pass_38 rfl ?_
    refine w_iload_n (pc2 := 42) G 0 rfl dX8_pass_41 rfl rfl ?_
    cases h
    exact w_iret G hQ rfl ⟨rfl, rfl⟩ dX8_pass_42
  replace h := h0
  clear h0
  refine w_if_eq (tgt := 11) (pc2 := 7) G dX8_pass_4 (by decide) rfl (fun cc => ?_) (fun cc => ?_)
  · replace h := (if_pos cc).symm.trans h
    refine w_aload_n (pc2 := 12) G 0 rfl dX8_pass_11 rfl rfl ?_
    refine w_get (pc2 := 15) G foX8_59 0 rfl rfl dX8_pass_12 rfl ?_
    refine w_aload_n (pc2 := 16) G 0 rfl dX8_pass_15 rfl rfl ?_
    refine w_get (pc2 := 19) G foX8_333 0 rfl rfl dX8_pass_16 rfl ?_
    obtain ⟨v1, H_v1, h⟩ := bs h
    refine w_ialdo (pc2 := 20) G 17 rfl H_v1 dX8_pass_19 rfl ?_
    cases h
    exact w_lv [0] rfl K_x2
  · replace h := (if_neg cc).symm.trans h
    refine w_iload_n (pc2 := 8) G 1 rfl dX8_pass_7 rfl rfl ?_
    refine w_goto (tgt := 20) G dX8_pass_8 (by decide) ?_
    cases h
    exact w_lv [0] rfl K_x2

set_option maxHeartbeats 4000000 in
set_option maxRecDepth 100000 in
theorem lp_X8_passRow_is_2 {g : CX} {E : EV} {a : Nat → Nat} {o : Nat} {c_seed : Int32} {c_sightOne c_sightOther : Nat → Int32} {c_sights : Int32} {c_pad : Nat → Int32} {c_padMany : Int32} {c_act c_which c_key c_other : Nat → Int32} {c_acts : Int32} {c_order : Nat → Int32} {c_digest : Nat → Int64} {c_tall c_had : Nat → Int32} {c_badAct c_badWhy c_alikeAct c_alikeTwo c_work c_isWorked : Int32} {c_trees : Nat → Int64} {c_from c_upTo : Nat → Int32} {c_shape : Nat → Int64} {c_isKept : Nat → Int32}  (G : GG g E RX8 cX8_passRow 4 none 1 0 0) : ∀ (n : Nat) (c_is : Nat → Int32) (c_kept : Nat → Int32) (c_keptAt : Int32) (c_isWriting : Int32) (l2 : Int32) (l3 : Int32) (R : (Nat → Int32) × (Nat → Int32) × Int32), L_X8_passRow_is_2 n c_is c_kept c_keptAt c_isWriting l2 l3 = some R → WW g E 4 0 0 (wX8 E a o c_seed R.1 c_sightOne c_sightOther c_sights c_pad c_padMany c_act c_which c_key c_other c_acts c_order c_digest c_tall c_had c_badAct c_badWhy c_alikeAct c_alikeTwo c_work c_isWorked c_trees c_from c_upTo c_shape R.2.1 c_isKept R.2.2 c_isWriting) [] 23 [] → WW g E 4 0 0 (wX8 E a o c_seed c_is c_sightOne c_sightOther c_sights c_pad c_padMany c_act c_which c_key c_other c_acts c_order c_digest c_tall c_had c_badAct c_badWhy c_alikeAct c_alikeTwo c_work c_isWorked c_trees c_from c_upTo c_shape c_kept c_isKept c_keptAt c_isWriting) [(0, .ref (a o)), (1, .ref (a (o + 1))), (2, .int l2), (3, .int l3)] 2 [] := by
  intro n
  induction n with
  | zero => intro c_is c_kept c_keptAt c_isWriting l2 l3 R h; exact no_some h
  | succ n ih =>
    intro c_is c_kept c_keptAt c_isWriting l2 l3 R h K
    rw [L_X8_passRow_is_2] at h
    refine w_iload_n (pc2 := 3) G 3 rfl dX8_passRow_2 rfl rfl ?_
    refine w_iload_n (pc2 := 4) G 2 rfl dX8_passRow_3 rfl rfl ?_
    refine w_icmp_ge (tgt := 23) (pc2 := 7) G dX8_passRow_4 (by decide) rfl (fun cc => ?_) (fun cc => ?_)
    · replace h := (if_pos cc).symm.trans h
      cases h
      exact w_lv [] rfl K
    · replace h := (if_neg cc).symm.trans h
      refine w_aload_n (pc2 := 8) G 1 rfl dX8_passRow_7 rfl rfl ?_
      refine w_iload_n (pc2 := 9) G 3 rfl dX8_passRow_8 rfl rfl ?_
      refine w_aload_n (pc2 := 10) G 0 rfl dX8_passRow_9 rfl rfl ?_
      refine w_aload_n (pc2 := 11) G 1 rfl dX8_passRow_10 rfl rfl ?_
      refine w_iload_n (pc2 := 12) G 3 rfl dX8_passRow_11 rfl rfl ?_
      obtain ⟨v1, H_v1, h⟩ := bs h
      refine w_ialdo (pc2 := 13) G 1 rfl H_v1 dX8_passRow_12 rfl ?_
      obtain ⟨x2, H_x2, h⟩ := bs h
      refine w_cV0 (pc2 := 16) (ws2 := (wX8 E a o c_seed c_is c_sightOne c_sightOther c_sights c_pad c_padMany c_act c_which c_key c_other c_acts c_order c_digest c_tall c_had c_badAct c_badWhy c_alikeAct c_alikeTwo c_work c_isWorked c_trees c_from c_upTo c_shape x2.2.1 c_isKept x2.2.2 c_isWriting)) (As := [.int v1]) (rest := [.int l3, .ref (a (o + 1))]) G koX8_336 (r_X8_pass H_x2) (Nat.le_of_ble_eq_true rfl) 8 rfl rfl rfl rfl (Nat.le_of_ble_eq_true rfl) ⟨Nat.zero_le _, Nat.zero_le _⟩ dX8_passRow_13 rfl rfl ?_
      obtain ⟨f3, H_f3, h⟩ := bs h
      refine w_iasto (pc2 := 17) (ws2 := (wX8 E a o c_seed f3 c_sightOne c_sightOther c_sights c_pad c_padMany c_act c_which c_key c_other c_acts c_order c_digest c_tall c_had c_badAct c_badWhy c_alikeAct c_alikeTwo c_work c_isWorked c_trees c_from c_upTo c_shape x2.2.1 c_isKept x2.2.2 c_isWriting)) G 1 rfl H_f3 rfl dX8_passRow_16 rfl ?_
      refine w_iinc (pc2 := 20) (lv2 := [(3, .int (l3 + (1 : Int32))), (0, .ref (a o)), (1, .ref (a (o + 1))), (2, .int l2)]) G 3 rfl dX8_passRow_17 k_iconst_1 (Nat.le_of_ble_eq_true rfl) rfl rfl ?_
      refine w_goto (tgt := 2) G dX8_passRow_20 (by decide) ?_
      exact w_lv [1, 2, 3, 0] rfl (ih _ _ _ _ _ _ _ h K)
set_option maxHeartbeats 4000000 in
set_option maxRecDepth 100000 in
theorem r_X8_passRow_is {l : Launch} {E : EV} {a : Nat → Nat} {o : Nat} {c_seed : Int32} {c_is c_sightOne c_sightOther : Nat → Int32} {c_sights : Int32} {c_pad : Nat → Int32} {c_padMany : Int32} {c_act c_which c_key c_other : Nat → Int32} {c_acts : Int32} {c_order : Nat → Int32} {c_digest : Nat → Int64} {c_tall c_had : Nat → Int32} {c_badAct c_badWhy c_alikeAct c_alikeTwo c_work c_isWorked : Int32} {c_trees : Nat → Int64} {c_from c_upTo : Nat → Int32} {c_shape : Nat → Int64} {c_kept c_isKept : Nat → Int32} {c_keptAt c_isWriting : Int32} {l2 : Int32} {R : (Nat → Int32) × (Nat → Int32) × Int32} (h : f_X8_passRow_is c_is c_kept c_keptAt c_isWriting l2 = some R) : Ret1 l E yX8_passRow cX8_passRow 4 none 1 (wX8 E a o c_seed c_is c_sightOne c_sightOther c_sights c_pad c_padMany c_act c_which c_key c_other c_acts c_order c_digest c_tall c_had c_badAct c_badWhy c_alikeAct c_alikeTwo c_work c_isWorked c_trees c_from c_upTo c_shape c_kept c_isKept c_keptAt c_isWriting) [.ref (a o), .ref (a (o + 1)), .int l2] none (wX8 E a o c_seed R.1 c_sightOne c_sightOther c_sights c_pad c_padMany c_act c_which c_key c_other c_acts c_order c_digest c_tall c_had c_badAct c_badWhy c_alikeAct c_alikeTwo c_work c_isWorked c_trees c_from c_upTo c_shape R.2.1 c_isKept R.2.2 c_isWriting) := by
  refine Ret.intro (lv := [(0, .ref (a o)), (1, .ref (a (o + 1))), (2, .int l2)]) (by decide) (Nat.le_of_ble_eq_true rfl) rfl ?_
  intro g hgl G hQ
  subst hgl
  rw [f_X8_passRow_is] at h
  refine w_iconst (pc2 := 1) G dX8_passRow_0 k_iconst_0 rfl ?_
  refine w_istore_n (pc2 := 2) (lv2 := [(3, .int (0 : Int32)), (0, .ref (a o)), (1, .ref (a (o + 1))), (2, .int l2)]) G dX8_passRow_1 rfl (Nat.le_of_ble_eq_true rfl) rfl rfl ?_
  obtain ⟨x1, h0, h⟩ := bs h
  have K_x1 : WW g E 4 0 0 (wX8 E a o c_seed x1.1 c_sightOne c_sightOther c_sights c_pad c_padMany c_act c_which c_key c_other c_acts c_order c_digest c_tall c_had c_badAct c_badWhy c_alikeAct c_alikeTwo c_work c_isWorked c_trees c_from c_upTo c_shape x1.2.1 c_isKept x1.2.2 c_isWriting) [] 23 [] := by
    clear h0
    cases h
    exact w_vret G hQ rfl ⟨rfl, rfl⟩ dX8_passRow_23
  exact w_lv [1, 2, 3, 0] rfl (lp_X8_passRow_is_2 G 20000 _ _ _ _ _ _ _ h0 (w_lv [] rfl K_x1))

set_option maxHeartbeats 4000000 in
set_option maxRecDepth 100000 in
theorem lp_X8_passRow_sightOne_2 {g : CX} {E : EV} {a : Nat → Nat} {o : Nat} {c_seed : Int32} {c_is c_sightOther : Nat → Int32} {c_sights : Int32} {c_pad : Nat → Int32} {c_padMany : Int32} {c_act c_which c_key c_other : Nat → Int32} {c_acts : Int32} {c_order : Nat → Int32} {c_digest : Nat → Int64} {c_tall c_had : Nat → Int32} {c_badAct c_badWhy c_alikeAct c_alikeTwo c_work c_isWorked : Int32} {c_trees : Nat → Int64} {c_from c_upTo : Nat → Int32} {c_shape : Nat → Int64} {c_isKept : Nat → Int32}  (G : GG g E RX8 cX8_passRow 4 none 1 0 0) : ∀ (n : Nat) (c_sightOne : Nat → Int32) (c_kept : Nat → Int32) (c_keptAt : Int32) (c_isWriting : Int32) (l2 : Int32) (l3 : Int32) (R : (Nat → Int32) × (Nat → Int32) × Int32), L_X8_passRow_sightOne_2 n c_sightOne c_kept c_keptAt c_isWriting l2 l3 = some R → WW g E 4 0 0 (wX8 E a o c_seed c_is R.1 c_sightOther c_sights c_pad c_padMany c_act c_which c_key c_other c_acts c_order c_digest c_tall c_had c_badAct c_badWhy c_alikeAct c_alikeTwo c_work c_isWorked c_trees c_from c_upTo c_shape R.2.1 c_isKept R.2.2 c_isWriting) [] 23 [] → WW g E 4 0 0 (wX8 E a o c_seed c_is c_sightOne c_sightOther c_sights c_pad c_padMany c_act c_which c_key c_other c_acts c_order c_digest c_tall c_had c_badAct c_badWhy c_alikeAct c_alikeTwo c_work c_isWorked c_trees c_from c_upTo c_shape c_kept c_isKept c_keptAt c_isWriting) [(0, .ref (a o)), (1, .ref (a (o + 2))), (2, .int l2), (3, .int l3)] 2 [] := by
  intro n
  induction n with
  | zero => intro c_sightOne c_kept c_keptAt c_isWriting l2 l3 R h; exact no_some h
  | succ n ih =>
    intro c_sightOne c_kept c_keptAt c_isWriting l2 l3 R h K
    rw [L_X8_passRow_sightOne_2] at h
    refine w_iload_n (pc2 := 3) G 3 rfl dX8_passRow_2 rfl rfl ?_
    refine w_iload_n (pc2 := 4) G 2 rfl dX8_passRow_3 rfl rfl ?_
    refine w_icmp_ge (tgt := 23) (pc2 := 7) G dX8_passRow_4 (by decide) rfl (fun cc => ?_) (fun cc => ?_)
    · replace h := (if_pos cc).symm.trans h
      cases h
      exact w_lv [] rfl K
    · replace h := (if_neg cc).symm.trans h
      refine w_aload_n (pc2 := 8) G 1 rfl dX8_passRow_7 rfl rfl ?_
      refine w_iload_n (pc2 := 9) G 3 rfl dX8_passRow_8 rfl rfl ?_
      refine w_aload_n (pc2 := 10) G 0 rfl dX8_passRow_9 rfl rfl ?_
      refine w_aload_n (pc2 := 11) G 1 rfl dX8_passRow_10 rfl rfl ?_
      refine w_iload_n (pc2 := 12) G 3 rfl dX8_passRow_11 rfl rfl ?_
      obtain ⟨v1, H_v1, h⟩ := bs h
      refine w_ialdo (pc2 := 13) G 2 rfl H_v1 dX8_passRow_12 rfl ?_
      obtain ⟨x2, H_x2, h⟩ := bs h
      refine w_cV0 (pc2 := 16) (ws2 := (wX8 E a o c_seed c_is c_sightOne c_sightOther c_sights c_pad c_padMany c_act c_which c_key c_other c_acts c_order c_digest c_tall c_had c_badAct c_badWhy c_alikeAct c_alikeTwo c_work c_isWorked c_trees c_from c_upTo c_shape x2.2.1 c_isKept x2.2.2 c_isWriting)) (As := [.int v1]) (rest := [.int l3, .ref (a (o + 2))]) G koX8_336 (r_X8_pass H_x2) (Nat.le_of_ble_eq_true rfl) 8 rfl rfl rfl rfl (Nat.le_of_ble_eq_true rfl) ⟨Nat.zero_le _, Nat.zero_le _⟩ dX8_passRow_13 rfl rfl ?_
      obtain ⟨f3, H_f3, h⟩ := bs h
      refine w_iasto (pc2 := 17) (ws2 := (wX8 E a o c_seed c_is f3 c_sightOther c_sights c_pad c_padMany c_act c_which c_key c_other c_acts c_order c_digest c_tall c_had c_badAct c_badWhy c_alikeAct c_alikeTwo c_work c_isWorked c_trees c_from c_upTo c_shape x2.2.1 c_isKept x2.2.2 c_isWriting)) G 2 rfl H_f3 rfl dX8_passRow_16 rfl ?_
      refine w_iinc (pc2 := 20) (lv2 := [(3, .int (l3 + (1 : Int32))), (0, .ref (a o)), (1, .ref (a (o + 2))), (2, .int l2)]) G 3 rfl dX8_passRow_17 k_iconst_1 (Nat.le_of_ble_eq_true rfl) rfl rfl ?_
      refine w_goto (tgt := 2) G dX8_passRow_20 (by decide) ?_
      exact w_lv [1, 2, 3, 0] rfl (ih _ _ _ _ _ _ _ h K)
set_option maxHeartbeats 4000000 in
set_option maxRecDepth 100000 in
theorem r_X8_passRow_sightOne {l : Launch} {E : EV} {a : Nat → Nat} {o : Nat} {c_seed : Int32} {c_is c_sightOne c_sightOther : Nat → Int32} {c_sights : Int32} {c_pad : Nat → Int32} {c_padMany : Int32} {c_act c_which c_key c_other : Nat → Int32} {c_acts : Int32} {c_order : Nat → Int32} {c_digest : Nat → Int64} {c_tall c_had : Nat → Int32} {c_badAct c_badWhy c_alikeAct c_alikeTwo c_work c_isWorked : Int32} {c_trees : Nat → Int64} {c_from c_upTo : Nat → Int32} {c_shape : Nat → Int64} {c_kept c_isKept : Nat → Int32} {c_keptAt c_isWriting : Int32} {l2 : Int32} {R : (Nat → Int32) × (Nat → Int32) × Int32} (h : f_X8_passRow_sightOne c_sightOne c_kept c_keptAt c_isWriting l2 = some R) : Ret1 l E yX8_passRow cX8_passRow 4 none 1 (wX8 E a o c_seed c_is c_sightOne c_sightOther c_sights c_pad c_padMany c_act c_which c_key c_other c_acts c_order c_digest c_tall c_had c_badAct c_badWhy c_alikeAct c_alikeTwo c_work c_isWorked c_trees c_from c_upTo c_shape c_kept c_isKept c_keptAt c_isWriting) [.ref (a o), .ref (a (o + 2)), .int l2] none (wX8 E a o c_seed c_is R.1 c_sightOther c_sights c_pad c_padMany c_act c_which c_key c_other c_acts c_order c_digest c_tall c_had c_badAct c_badWhy c_alikeAct c_alikeTwo c_work c_isWorked c_trees c_from c_upTo c_shape R.2.1 c_isKept R.2.2 c_isWriting) := by
  refine Ret.intro (lv := [(0, .ref (a o)), (1, .ref (a (o + 2))), (2, .int l2)]) (by decide) (Nat.le_of_ble_eq_true rfl) rfl ?_
  intro g hgl G hQ
  subst hgl
  rw [f_X8_passRow_sightOne] at h
  refine w_iconst (pc2 := 1) G dX8_passRow_0 k_iconst_0 rfl ?_
  refine w_istore_n (pc2 := 2) (lv2 := [(3, .int (0 : Int32)), (0, .ref (a o)), (1, .ref (a (o + 2))), (2, .int l2)]) G dX8_passRow_1 rfl (Nat.le_of_ble_eq_true rfl) rfl rfl ?_
  obtain ⟨x1, h0, h⟩ := bs h
  have K_x1 : WW g E 4 0 0 (wX8 E a o c_seed c_is x1.1 c_sightOther c_sights c_pad c_padMany c_act c_which c_key c_other c_acts c_order c_digest c_tall c_had c_badAct c_badWhy c_alikeAct c_alikeTwo c_work c_isWorked c_trees c_from c_upTo c_shape x1.2.1 c_isKept x1.2.2 c_isWriting) [] 23 [] := by
    clear h0
    cases h
    exact w_vret G hQ rfl ⟨rfl, rfl⟩ dX8_passRow_23
  exact w_lv [1, 2, 3, 0] rfl (lp_X8_passRow_sightOne_2 G 20000 _ _ _ _ _ _ _ h0 (w_lv [] rfl K_x1))

set_option maxHeartbeats 4000000 in
set_option maxRecDepth 100000 in
theorem lp_X8_passRow_sightOther_2 {g : CX} {E : EV} {a : Nat → Nat} {o : Nat} {c_seed : Int32} {c_is c_sightOne : Nat → Int32} {c_sights : Int32} {c_pad : Nat → Int32} {c_padMany : Int32} {c_act c_which c_key c_other : Nat → Int32} {c_acts : Int32} {c_order : Nat → Int32} {c_digest : Nat → Int64} {c_tall c_had : Nat → Int32} {c_badAct c_badWhy c_alikeAct c_alikeTwo c_work c_isWorked : Int32} {c_trees : Nat → Int64} {c_from c_upTo : Nat → Int32} {c_shape : Nat → Int64} {c_isKept : Nat → Int32}  (G : GG g E RX8 cX8_passRow 4 none 1 0 0) : ∀ (n : Nat) (c_sightOther : Nat → Int32) (c_kept : Nat → Int32) (c_keptAt : Int32) (c_isWriting : Int32) (l2 : Int32) (l3 : Int32) (R : (Nat → Int32) × (Nat → Int32) × Int32), L_X8_passRow_sightOther_2 n c_sightOther c_kept c_keptAt c_isWriting l2 l3 = some R → WW g E 4 0 0 (wX8 E a o c_seed c_is c_sightOne R.1 c_sights c_pad c_padMany c_act c_which c_key c_other c_acts c_order c_digest c_tall c_had c_badAct c_badWhy c_alikeAct c_alikeTwo c_work c_isWorked c_trees c_from c_upTo c_shape R.2.1 c_isKept R.2.2 c_isWriting) [] 23 [] → WW g E 4 0 0 (wX8 E a o c_seed c_is c_sightOne c_sightOther c_sights c_pad c_padMany c_act c_which c_key c_other c_acts c_order c_digest c_tall c_had c_badAct c_badWhy c_alikeAct c_alikeTwo c_work c_isWorked c_trees c_from c_upTo c_shape c_kept c_isKept c_keptAt c_isWriting) [(0, .ref (a o)), (1, .ref (a (o + 3))), (2, .int l2), (3, .int l3)] 2 [] := by
  intro n
  induction n with
  | zero => intro c_sightOther c_kept c_keptAt c_isWriting l2 l3 R h; exact no_some h
  | succ n ih =>
    intro c_sightOther c_kept c_keptAt c_isWriting l2 l3 R h K
    rw [L_X8_passRow_sightOther_2] at h
    refine w_iload_n (pc2 := 3) G 3 rfl dX8_passRow_2 rfl rfl ?_
    refine w_iload_n (pc2 := 4) G 2 rfl dX8_passRow_3 rfl rfl ?_
    refine w_icmp_ge (tgt := 23) (pc2 := 7) G dX8_passRow_4 (by decide) rfl (fun cc => ?_) (fun cc => ?_)
    · replace h := (if_pos cc).symm.trans h
      cases h
      exact w_lv [] rfl K
    · replace h := (if_neg cc).symm.trans h
      refine w_aload_n (pc2 := 8) G 1 rfl dX8_passRow_7 rfl rfl ?_
      refine w_iload_n (pc2 := 9) G 3 rfl dX8_passRow_8 rfl rfl ?_
      refine w_aload_n (pc2 := 10) G 0 rfl dX8_passRow_9 rfl rfl ?_
      refine w_aload_n (pc2 := 11) G 1 rfl dX8_passRow_10 rfl rfl ?_
      refine w_iload_n (pc2 := 12) G 3 rfl dX8_passRow_11 rfl rfl ?_
      obtain ⟨v1, H_v1, h⟩ := bs h
      refine w_ialdo (pc2 := 13) G 3 rfl H_v1 dX8_passRow_12 rfl ?_
      obtain ⟨x2, H_x2, h⟩ := bs h
      refine w_cV0 (pc2 := 16) (ws2 := (wX8 E a o c_seed c_is c_sightOne c_sightOther c_sights c_pad c_padMany c_act c_which c_key c_other c_acts c_order c_digest c_tall c_had c_badAct c_badWhy c_alikeAct c_alikeTwo c_work c_isWorked c_trees c_from c_upTo c_shape x2.2.1 c_isKept x2.2.2 c_isWriting)) (As := [.int v1]) (rest := [.int l3, .ref (a (o + 3))]) G koX8_336 (r_X8_pass H_x2) (Nat.le_of_ble_eq_true rfl) 8 rfl rfl rfl rfl (Nat.le_of_ble_eq_true rfl) ⟨Nat.zero_le _, Nat.zero_le _⟩ dX8_passRow_13 rfl rfl ?_
      obtain ⟨f3, H_f3, h⟩ := bs h
      refine w_iasto (pc2 := 17) (ws2 := (wX8 E a o c_seed c_is c_sightOne f3 c_sights c_pad c_padMany c_act c_which c_key c_other c_acts c_order c_digest c_tall c_had c_badAct c_badWhy c_alikeAct c_alikeTwo c_work c_isWorked c_trees c_from c_upTo c_shape x2.2.1 c_isKept x2.2.2 c_isWriting)) G 3 rfl H_f3 rfl dX8_passRow_16 rfl ?_
      refine w_iinc (pc2 := 20) (lv2 := [(3, .int (l3 + (1 : Int32))), (0, .ref (a o)), (1, .ref (a (o + 3))), (2, .int l2)]) G 3 rfl dX8_passRow_17 k_iconst_1 (Nat.le_of_ble_eq_true rfl) rfl rfl ?_
      refine w_goto (tgt := 2) G dX8_passRow_20 (by decide) ?_
      exact w_lv [1, 2, 3, 0] rfl (ih _ _ _ _ _ _ _ h K)
set_option maxHeartbeats 4000000 in
set_option maxRecDepth 100000 in
theorem r_X8_passRow_sightOther {l : Launch} {E : EV} {a : Nat → Nat} {o : Nat} {c_seed : Int32} {c_is c_sightOne c_sightOther : Nat → Int32} {c_sights : Int32} {c_pad : Nat → Int32} {c_padMany : Int32} {c_act c_which c_key c_other : Nat → Int32} {c_acts : Int32} {c_order : Nat → Int32} {c_digest : Nat → Int64} {c_tall c_had : Nat → Int32} {c_badAct c_badWhy c_alikeAct c_alikeTwo c_work c_isWorked : Int32} {c_trees : Nat → Int64} {c_from c_upTo : Nat → Int32} {c_shape : Nat → Int64} {c_kept c_isKept : Nat → Int32} {c_keptAt c_isWriting : Int32} {l2 : Int32} {R : (Nat → Int32) × (Nat → Int32) × Int32} (h : f_X8_passRow_sightOther c_sightOther c_kept c_keptAt c_isWriting l2 = some R) : Ret1 l E yX8_passRow cX8_passRow 4 none 1 (wX8 E a o c_seed c_is c_sightOne c_sightOther c_sights c_pad c_padMany c_act c_which c_key c_other c_acts c_order c_digest c_tall c_had c_badAct c_badWhy c_alikeAct c_alikeTwo c_work c_isWorked c_trees c_from c_upTo c_shape c_kept c_isKept c_keptAt c_isWriting) [.ref (a o), .ref (a (o + 3)), .int l2] none (wX8 E a o c_seed c_is c_sightOne R.1 c_sights c_pad c_padMany c_act c_which c_key c_other c_acts c_order c_digest c_tall c_had c_badAct c_badWhy c_alikeAct c_alikeTwo c_work c_isWorked c_trees c_from c_upTo c_shape R.2.1 c_isKept R.2.2 c_isWriting) := by
  refine Ret.intro (lv := [(0, .ref (a o)), (1, .ref (a (o + 3))), (2, .int l2)]) (by decide) (Nat.le_of_ble_eq_true rfl) rfl ?_
  intro g hgl G hQ
  subst hgl
  rw [f_X8_passRow_sightOther] at h
  refine w_iconst (pc2 := 1) G dX8_passRow_0 k_iconst_0 rfl ?_
  refine w_istore_n (pc2 := 2) (lv2 := [(3, .int (0 : Int32)), (0, .ref (a o)), (1, .ref (a (o + 3))), (2, .int l2)]) G dX8_passRow_1 rfl (Nat.le_of_ble_eq_true rfl) rfl rfl ?_
  obtain ⟨x1, h0, h⟩ := bs h
  have K_x1 : WW g E 4 0 0 (wX8 E a o c_seed c_is c_sightOne x1.1 c_sights c_pad c_padMany c_act c_which c_key c_other c_acts c_order c_digest c_tall c_had c_badAct c_badWhy c_alikeAct c_alikeTwo c_work c_isWorked c_trees c_from c_upTo c_shape x1.2.1 c_isKept x1.2.2 c_isWriting) [] 23 [] := by
    clear h0
    cases h
    exact w_vret G hQ rfl ⟨rfl, rfl⟩ dX8_passRow_23
  exact w_lv [1, 2, 3, 0] rfl (lp_X8_passRow_sightOther_2 G 20000 _ _ _ _ _ _ _ h0 (w_lv [] rfl K_x1))

set_option maxHeartbeats 4000000 in
set_option maxRecDepth 100000 in
theorem r_X8_passAll {l : Launch} {E : EV} {a : Nat → Nat} {o : Nat} {c_seed : Int32} {c_is c_sightOne c_sightOther : Nat → Int32} {c_sights : Int32} {c_pad : Nat → Int32} {c_padMany : Int32} {c_act c_which c_key c_other : Nat → Int32} {c_acts : Int32} {c_order : Nat → Int32} {c_digest : Nat → Int64} {c_tall c_had : Nat → Int32} {c_badAct c_badWhy c_alikeAct c_alikeTwo c_work c_isWorked : Int32} {c_trees : Nat → Int64} {c_from c_upTo : Nat → Int32} {c_shape : Nat → Int64} {c_kept c_isKept : Nat → Int32} {c_keptAt c_isWriting : Int32}  {R : Int32 × (Nat → Int32) × (Nat → Int32) × (Nat → Int32) × Int32 × (Nat → Int32) × Int32} (h : f_X8_passAll c_seed c_is c_sightOne c_sightOther c_sights c_kept c_keptAt c_isWriting = some R) : Ret1 l E yX8_passAll cX8_passAll 1 none 2 (wX8 E a o c_seed c_is c_sightOne c_sightOther c_sights c_pad c_padMany c_act c_which c_key c_other c_acts c_order c_digest c_tall c_had c_badAct c_badWhy c_alikeAct c_alikeTwo c_work c_isWorked c_trees c_from c_upTo c_shape c_kept c_isKept c_keptAt c_isWriting) [.ref (a o)] none (wX8 E a o R.1 R.2.1 R.2.2.1 R.2.2.2.1 R.2.2.2.2.1 c_pad c_padMany c_act c_which c_key c_other c_acts c_order c_digest c_tall c_had c_badAct c_badWhy c_alikeAct c_alikeTwo c_work c_isWorked c_trees c_from c_upTo c_shape R.2.2.2.2.2.1 c_isKept R.2.2.2.2.2.2 c_isWriting) := by
  refine Ret.intro (lv := [(0, .ref (a o))]) (by decide) (Nat.le_of_ble_eq_true rfl) rfl ?_
  intro g hgl G hQ
  subst hgl
  rw [f_X8_passAll] at h
  refine w_aload_n (pc2 := 1) G 0 rfl dX8_passAll_0 rfl rfl ?_
  refine w_aload_n (pc2 := 2) G 0 rfl dX8_passAll_1 rfl rfl ?_
  refine w_aload_n (pc2 := 3) G 0 rfl dX8_passAll_2 rfl rfl ?_
  refine w_get (pc2 := 6) G foX8_78 0 rfl rfl dX8_passAll_3 rfl ?_
  obtain ⟨x1, H_x1, h⟩ := bs h
  refine w_cV0 (pc2 := 9) (ws2 := (wX8 E a o c_seed c_is c_sightOne c_sightOther c_sights c_pad c_padMany c_act c_which c_key c_other c_acts c_order c_digest c_tall c_had c_badAct c_badWhy c_alikeAct c_alikeTwo c_work c_isWorked c_trees c_from c_upTo c_shape x1.2.1 c_isKept x1.2.2 c_isWriting)) (As := [.int c_seed]) (rest := [.ref (a o)]) G koX8_336 (r_X8_pass H_x1) (Nat.le_of_ble_eq_true rfl) 8 rfl rfl rfl rfl (Nat.le_of_ble_eq_true rfl) ⟨Nat.zero_le _, Nat.zero_le _⟩ dX8_passAll_6 rfl rfl ?_
  refine w_put (pc2 := 12) (ws2 := (wX8 E a o x1.1 c_is c_sightOne c_sightOther c_sights c_pad c_padMany c_act c_which c_key c_other c_acts c_order c_digest c_tall c_had c_badAct c_badWhy c_alikeAct c_alikeTwo c_work c_isWorked c_trees c_from c_upTo c_shape x1.2.1 c_isKept x1.2.2 c_isWriting)) G foX8_78 tokX8 0 rfl rfl rfl rfl (Nat.le_of_ble_eq_true rfl) rfl dX8_passAll_9 rfl ?_
  refine w_aload_n (pc2 := 13) G 0 rfl dX8_passAll_12 rfl rfl ?_
  refine w_aload_n (pc2 := 14) G 0 rfl dX8_passAll_13 rfl rfl ?_
  refine w_aload_n (pc2 := 15) G 0 rfl dX8_passAll_14 rfl rfl ?_
  refine w_get (pc2 := 18) G foX8_293 0 rfl rfl dX8_passAll_15 rfl ?_
  obtain ⟨x2, H_x2, h⟩ := bs h
  refine w_cV0 (pc2 := 21) (ws2 := (wX8 E a o x1.1 c_is c_sightOne c_sightOther c_sights c_pad c_padMany c_act c_which c_key c_other c_acts c_order c_digest c_tall c_had c_badAct c_badWhy c_alikeAct c_alikeTwo c_work c_isWorked c_trees c_from c_upTo c_shape x2.2.1 c_isKept x2.2.2 c_isWriting)) (As := [.int c_sights]) (rest := [.ref (a o)]) G koX8_336 (r_X8_pass H_x2) (Nat.le_of_ble_eq_true rfl) 8 rfl rfl rfl rfl (Nat.le_of_ble_eq_true rfl) ⟨Nat.zero_le _, Nat.zero_le _⟩ dX8_passAll_18 rfl rfl ?_
  refine w_put (pc2 := 24) (ws2 := (wX8 E a o x1.1 c_is c_sightOne c_sightOther x2.1 c_pad c_padMany c_act c_which c_key c_other c_acts c_order c_digest c_tall c_had c_badAct c_badWhy c_alikeAct c_alikeTwo c_work c_isWorked c_trees c_from c_upTo c_shape x2.2.1 c_isKept x2.2.2 c_isWriting)) G foX8_293 tokX8 0 rfl rfl rfl rfl (Nat.le_of_ble_eq_true rfl) rfl dX8_passAll_21 rfl ?_
  refine w_aload_n (pc2 := 25) G 0 rfl dX8_passAll_24 rfl rfl ?_
  refine w_aload_n (pc2 := 26) G 0 rfl dX8_passAll_25 rfl rfl ?_
  refine w_get (pc2 := 29) G foX8_7 0 rfl rfl dX8_passAll_26 rfl ?_
  refine w_sipush (pc2 := 32) G dX8_passAll_29 k_sipush_200 rfl ?_
  obtain ⟨x3, H_x3, h⟩ := bs h
  refine w_cV0 (pc2 := 35) (ws2 := (wX8 E a o x1.1 x3.1 c_sightOne c_sightOther x2.1 c_pad c_padMany c_act c_which c_key c_other c_acts c_order c_digest c_tall c_had c_badAct c_badWhy c_alikeAct c_alikeTwo c_work c_isWorked c_trees c_from c_upTo c_shape x3.2.1 c_isKept x3.2.2 c_isWriting)) (As := [.ref (a (o + 1)), .int (200 : Int32)]) (rest := []) G koX8_339 (r_X8_passRow_is H_x3) (Nat.le_of_ble_eq_true rfl) 8 rfl rfl rfl rfl (Nat.le_of_ble_eq_true rfl) ⟨Nat.zero_le _, Nat.zero_le _⟩ dX8_passAll_32 rfl rfl ?_
  refine w_aload_n (pc2 := 36) G 0 rfl dX8_passAll_35 rfl rfl ?_
  refine w_aload_n (pc2 := 37) G 0 rfl dX8_passAll_36 rfl rfl ?_
  refine w_get (pc2 := 40) G foX8_13 0 rfl rfl dX8_passAll_37 rfl ?_
  refine w_bipush (pc2 := 42) G dX8_passAll_40 k_bipush_8 rfl ?_
  obtain ⟨x4, H_x4, h⟩ := bs h
  refine w_cV0 (pc2 := 45) (ws2 := (wX8 E a o x1.1 x3.1 x4.1 c_sightOther x2.1 c_pad c_padMany c_act c_which c_key c_other c_acts c_order c_digest c_tall c_had c_badAct c_badWhy c_alikeAct c_alikeTwo c_work c_isWorked c_trees c_from c_upTo c_shape x4.2.1 c_isKept x4.2.2 c_isWriting)) (As := [.ref (a (o + 2)), .int (8 : Int32)]) (rest := []) G koX8_339 (r_X8_passRow_sightOne H_x4) (Nat.le_of_ble_eq_true rfl) 8 rfl rfl rfl rfl (Nat.le_of_ble_eq_true rfl) ⟨Nat.zero_le _, Nat.zero_le _⟩ dX8_passAll_42 rfl rfl ?_
  refine w_aload_n (pc2 := 46) G 0 rfl dX8_passAll_45 rfl rfl ?_
  refine w_aload_n (pc2 := 47) G 0 rfl dX8_passAll_46 rfl rfl ?_
  refine w_get (pc2 := 50) G foX8_16 0 rfl rfl dX8_passAll_47 rfl ?_
  refine w_bipush (pc2 := 52) G dX8_passAll_50 k_bipush_8 rfl ?_
  obtain ⟨x5, H_x5, h⟩ := bs h
  refine w_cV0 (pc2 := 55) (ws2 := (wX8 E a o x1.1 x3.1 x4.1 x5.1 x2.1 c_pad c_padMany c_act c_which c_key c_other c_acts c_order c_digest c_tall c_had c_badAct c_badWhy c_alikeAct c_alikeTwo c_work c_isWorked c_trees c_from c_upTo c_shape x5.2.1 c_isKept x5.2.2 c_isWriting)) (As := [.ref (a (o + 3)), .int (8 : Int32)]) (rest := []) G koX8_339 (r_X8_passRow_sightOther H_x5) (Nat.le_of_ble_eq_true rfl) 8 rfl rfl rfl rfl (Nat.le_of_ble_eq_true rfl) ⟨Nat.zero_le _, Nat.zero_le _⟩ dX8_passAll_52 rfl rfl ?_
  cases h
  exact w_vret G hQ rfl ⟨rfl, rfl⟩ dX8_passAll_55

set_option maxHeartbeats 4000000 in
set_option maxRecDepth 100000 in
theorem r_X8_image {l : Launch} {E : EV} {a : Nat → Nat} {o : Nat} {c_seed : Int32} {c_is c_sightOne c_sightOther : Nat → Int32} {c_sights : Int32} {c_pad : Nat → Int32} {c_padMany : Int32} {c_act c_which c_key c_other : Nat → Int32} {c_acts : Int32} {c_order : Nat → Int32} {c_digest : Nat → Int64} {c_tall c_had : Nat → Int32} {c_badAct c_badWhy c_alikeAct c_alikeTwo c_work c_isWorked : Int32} {c_trees : Nat → Int64} {c_from c_upTo : Nat → Int32} {c_shape : Nat → Int64} {c_kept c_isKept : Nat → Int32} {c_keptAt c_isWriting : Int32} {l1 : Int32} {R : Int32 × Int32 × (Nat → Int32) × (Nat → Int32) × (Nat → Int32) × Int32 × (Nat → Int32) × (Nat → Int32) × Int32 × Int32} (h : f_X8_image c_seed c_is c_sightOne c_sightOther c_sights c_kept c_isKept c_keptAt c_isWriting l1 = some R) : Ret1 l E yX8_image cX8_image 2 (some .int) 3 (wX8 E a o c_seed c_is c_sightOne c_sightOther c_sights c_pad c_padMany c_act c_which c_key c_other c_acts c_order c_digest c_tall c_had c_badAct c_badWhy c_alikeAct c_alikeTwo c_work c_isWorked c_trees c_from c_upTo c_shape c_kept c_isKept c_keptAt c_isWriting) [.ref (a o), .int l1] (some (.int R.1)) (wX8 E a o R.2.1 R.2.2.1 R.2.2.2.1 R.2.2.2.2.1 R.2.2.2.2.2.1 c_pad c_padMany c_act c_which c_key c_other c_acts c_order c_digest c_tall c_had c_badAct c_badWhy c_alikeAct c_alikeTwo c_work c_isWorked c_trees c_from c_upTo c_shape R.2.2.2.2.2.2.1 R.2.2.2.2.2.2.2.1 R.2.2.2.2.2.2.2.2.1 R.2.2.2.2.2.2.2.2.2) := by
  refine Ret.intro (lv := [(0, .ref (a o)), (1, .int l1)]) (by decide) (Nat.le_of_ble_eq_true rfl) rfl ?_
  intro g hgl G hQ
  subst hgl
  rw [f_X8_image] at h
  refine w_iload_n (pc2 := 1) G 1 rfl dX8_image_0 rfl rfl ?_
  refine w_i2l (pc2 := 2) G dX8_image_1 rfl ?_
  refine w_lconst (pc2 := 3) G dX8_image_2 k_lconst_0 rfl ?_
  refine w_lconst (pc2 := 4) G dX8_image_3 k_lconst_1 rfl ?_
  obtain ⟨x1, H_x1, h⟩ := bs h
  refine w_cS0 (pc2 := 7) (As := [.long l1.toInt64, .long (0 : Int64), .long (1 : Int64)]) (rest := []) G koX8_68 (r_X8_in H_x1) (Nat.le_of_ble_eq_true rfl) rfl rfl (Nat.le_of_ble_eq_true rfl) ⟨Nat.zero_le _, Nat.zero_le _⟩ dX8_image_4 rfl rfl ?_
  refine w_if_ne (tgt := 13) (pc2 := 10) G dX8_image_7 (by decide) rfl (fun cc => ?_) (fun cc => ?_)
  · replace h := (if_neg cc).symm.trans h
    refine w_aload_n (pc2 := 14) G 0 rfl dX8_image_13 rfl rfl ?_
    refine w_sipush (pc2 := 17) G dX8_image_14 k_sipush_230 rfl ?_
    refine w_iload_n (pc2 := 18) G 1 rfl dX8_image_17 rfl rfl ?_
    refine w_imul (pc2 := 19) G dX8_image_18 rfl ?_
    refine w_put (pc2 := 22) (ws2 := (wX8 E a o c_seed c_is c_sightOne c_sightOther c_sights c_pad c_padMany c_act c_which c_key c_other c_acts c_order c_digest c_tall c_had c_badAct c_badWhy c_alikeAct c_alikeTwo c_work c_isWorked c_trees c_from c_upTo c_shape c_kept c_isKept ((230 : Int32) * l1) c_isWriting)) G foX8_333 tokX8 0 rfl rfl rfl rfl (Nat.le_of_ble_eq_true rfl) rfl dX8_image_19 rfl ?_
    refine w_aload_n (pc2 := 23) G 0 rfl dX8_image_22 rfl rfl ?_
    refine w_iconst (pc2 := 24) G dX8_image_23 k_iconst_1 rfl ?_
    refine w_put (pc2 := 27) (ws2 := (wX8 E a o c_seed c_is c_sightOne c_sightOther c_sights c_pad c_padMany c_act c_which c_key c_other c_acts c_order c_digest c_tall c_had c_badAct c_badWhy c_alikeAct c_alikeTwo c_work c_isWorked c_trees c_from c_upTo c_shape c_kept c_isKept ((230 : Int32) * l1) (1 : Int32))) G foX8_330 tokX8 0 rfl rfl (nar_z (Or.inr rfl)) (fit_z (Or.inr rfl)) (Nat.le_of_ble_eq_true rfl) rfl dX8_image_24 rfl ?_
    refine w_aload_n (pc2 := 28) G 0 rfl dX8_image_27 rfl rfl ?_
    obtain ⟨x2, H_x2, h⟩ := bs h
    refine w_cV0 (pc2 := 31) (ws2 := (wX8 E a o x2.1 x2.2.1 x2.2.2.1 x2.2.2.2.1 x2.2.2.2.2.1 c_pad c_padMany c_act c_which c_key c_other c_acts c_order c_digest c_tall c_had c_badAct c_badWhy c_alikeAct c_alikeTwo c_work c_isWorked c_trees c_from c_upTo c_shape x2.2.2.2.2.2.1 c_isKept x2.2.2.2.2.2.2 (1 : Int32))) (As := []) (rest := []) G koX8_343 (r_X8_passAll H_x2) (Nat.le_of_ble_eq_true rfl) 8 rfl rfl rfl rfl (Nat.le_of_ble_eq_true rfl) ⟨Nat.zero_le _, Nat.zero_le _⟩ dX8_image_28 rfl rfl ?_
    refine w_aload_n (pc2 := 32) G 0 rfl dX8_image_31 rfl rfl ?_
    refine w_get (pc2 := 35) G foX8_62 0 rfl rfl dX8_image_32 rfl ?_
    refine w_iload_n (pc2 := 36) G 1 rfl dX8_image_35 rfl rfl ?_
    refine w_iconst (pc2 := 37) G dX8_image_36 k_iconst_1 rfl ?_
    obtain ⟨f3, H_f3, h⟩ := bs h
    refine w_zasto (pc2 := 38) (ws2 := (wX8 E a o x2.1 x2.2.1 x2.2.2.1 x2.2.2.2.1 x2.2.2.2.2.1 c_pad c_padMany c_act c_which c_key c_other c_acts c_order c_digest c_tall c_had c_badAct c_badWhy c_alikeAct c_alikeTwo c_work c_isWorked c_trees c_from c_upTo c_shape x2.2.2.2.2.2.1 f3 x2.2.2.2.2.2.2 (1 : Int32))) G 18 rfl H_f3 rfl dX8_image_37 rfl ?_
    refine w_iconst (pc2 := 39) G dX8_image_38 k_iconst_1 rfl ?_
    cases h
    exact w_iret G hQ rfl ⟨rfl, rfl⟩ dX8_image_39
  · replace h := (if_pos cc).symm.trans h
    refine w_bipush (pc2 := 12) G dX8_image_10 k_bipush_m2 rfl ?_
    cases h
    exact w_iret G hQ rfl ⟨rfl, rfl⟩ dX8_image_12

set_option maxHeartbeats 4000000 in
set_option maxRecDepth 100000 in
theorem r_X8_restore {l : Launch} {E : EV} {a : Nat → Nat} {o : Nat} {c_seed : Int32} {c_is c_sightOne c_sightOther : Nat → Int32} {c_sights : Int32} {c_pad : Nat → Int32} {c_padMany : Int32} {c_act c_which c_key c_other : Nat → Int32} {c_acts : Int32} {c_order : Nat → Int32} {c_digest : Nat → Int64} {c_tall c_had : Nat → Int32} {c_badAct c_badWhy c_alikeAct c_alikeTwo c_work c_isWorked : Int32} {c_trees : Nat → Int64} {c_from c_upTo : Nat → Int32} {c_shape : Nat → Int64} {c_kept c_isKept : Nat → Int32} {c_keptAt c_isWriting : Int32} {l1 : Int32} {R : Int32 × Int32 × (Nat → Int32) × (Nat → Int32) × (Nat → Int32) × Int32 × (Nat → Int32) × Int32 × Int32} (h : f_X8_restore c_seed c_is c_sightOne c_sightOther c_sights c_kept c_isKept c_keptAt c_isWriting l1 = some R) : Ret1 l E yX8_restore cX8_restore 2 (some .int) 3 (wX8 E a o c_seed c_is c_sightOne c_sightOther c_sights c_pad c_padMany c_act c_which c_key c_other c_acts c_order c_digest c_tall c_had c_badAct c_badWhy c_alikeAct c_alikeTwo c_work c_isWorked c_trees c_from c_upTo c_shape c_kept c_isKept c_keptAt c_isWriting) [.ref (a o), .int l1] (some (.int R.1)) (wX8 E a o R.2.1 R.2.2.1 R.2.2.2.1 R.2.2.2.2.1 R.2.2.2.2.2.1 c_pad c_padMany c_act c_which c_key c_other c_acts c_order c_digest c_tall c_had c_badAct c_badWhy c_alikeAct c_alikeTwo c_work c_isWorked c_trees c_from c_upTo c_shape R.2.2.2.2.2.2.1 c_isKept R.2.2.2.2.2.2.2.1 R.2.2.2.2.2.2.2.2) := by
  refine Ret.intro (lv := [(0, .ref (a o)), (1, .int l1)]) (by decide) (Nat.le_of_ble_eq_true rfl) rfl ?_
  intro g hgl G hQ
  subst hgl
  rw [f_X8_restore] at h
  refine w_iload_n (pc2 := 1) G 1 rfl dX8_restore_0 rfl rfl ?_
  refine w_i2l (pc2 := 2) G dX8_restore_1 rfl ?_
  refine w_lconst (pc2 := 3) G dX8_restore_2 k_lconst_0 rfl ?_
  refine w_lconst (pc2 := 4) G dX8_restore_3 k_lconst_1 rfl ?_
  obtain ⟨x1, H_x1, h⟩ := bs h
  refine w_cS0 (pc2 := 7) (As := [.long l1.toInt64, .long (0 : Int64), .long (1 : Int64)]) (rest := []) G koX8_68 (r_X8_in H_x1) (Nat.le_of_ble_eq_true rfl) rfl rfl (Nat.le_of_ble_eq_true rfl) ⟨Nat.zero_le _, Nat.zero_le _⟩ dX8_restore_4 rfl rfl ?_
  refine w_if_ne (tgt := 13) (pc2 := 10) G dX8_restore_7 (by decide) rfl (fun cc => ?_) (fun cc => ?_)
  · replace h := (if_neg cc).symm.trans h
    refine w_aload_n (pc2 := 14) G 0 rfl dX8_restore_13 rfl rfl ?_
    refine w_get (pc2 := 17) G foX8_62 0 rfl rfl dX8_restore_14 rfl ?_
    refine w_iload_n (pc2 := 18) G 1 rfl dX8_restore_17 rfl rfl ?_
    obtain ⟨v2, H_v2, h⟩ := bs h
    refine w_zaldo (pc2 := 19) G 18 rfl H_v2 dX8_restore_18 rfl ?_
    refine w_if_ne (tgt := 25) (pc2 := 22) G dX8_restore_19 (by decide) rfl (fun cc => ?_) (fun cc => ?_)
    · replace h := (if_neg cc).symm.trans h
      refine w_aload_n (pc2 := 26) G 0 rfl dX8_restore_25 rfl rfl ?_
      refine w_sipush (pc2 := 29) G dX8_restore_26 k_sipush_230 rfl ?_
      refine w_iload_n (pc2 := 30) G 1 rfl dX8_restore_29 rfl rfl ?_
      refine w_imul (pc2 := 31) G dX8_restore_30 rfl ?_
      refine w_put (pc2 := 34) (ws2 := (wX8 E a o c_seed c_is c_sightOne c_sightOther c_sights c_pad c_padMany c_act c_which c_key c_other c_acts c_order c_digest c_tall c_had c_badAct c_badWhy c_alikeAct c_alikeTwo c_work c_isWorked c_trees c_from c_upTo c_shape c_kept c_isKept ((230 : Int32) * l1) c_isWriting)) G foX8_333 tokX8 0 rfl rfl rfl rfl (Nat.le_of_ble_eq_true rfl) rfl dX8_restore_31 rfl ?_
      refine w_aload_n (pc2 := 35) G 0 rfl dX8_restore_34 rfl rfl ?_
      refine w_iconst (pc2 := 36) G dX8_restore_35 k_iconst_0 rfl ?_
      refine w_put (pc2 := 39) (ws2 := (wX8 E a o c_seed c_is c_sightOne c_sightOther c_sights c_pad c_padMany c_act c_which c_key c_other c_acts c_order c_digest c_tall c_had c_badAct c_badWhy c_alikeAct c_alikeTwo c_work c_isWorked c_trees c_from c_upTo c_shape c_kept c_isKept ((230 : Int32) * l1) (0 : Int32))) G foX8_330 tokX8 0 rfl rfl (nar_z (Or.inl rfl)) (fit_z (Or.inl rfl)) (Nat.le_of_ble_eq_true rfl) rfl dX8_restore_36 rfl ?_
      refine w_aload_n (pc2 := 40) G 0 rfl dX8_restore_39 rfl rfl ?_
      obtain ⟨x3, H_x3, h⟩ := bs h
      refine w_cV0 (pc2 := 43) (ws2 := (wX8 E a o x3.1 x3.2.1 x3.2.2.1 x3.2.2.2.1 x3.2.2.2.2.1 c_pad c_padMany c_act c_which c_key c_other c_acts c_order c_digest c_tall c_had c_badAct c_badWhy c_alikeAct c_alikeTwo c_work c_isWorked c_trees c_from c_upTo c_shape x3.2.2.2.2.2.1 c_isKept x3.2.2.2.2.2.2 (0 : Int32))) (As := []) (rest := []) G koX8_343 (r_X8_passAll H_x3) (Nat.le_of_ble_eq_true rfl) 8 rfl rfl rfl rfl (Nat.le_of_ble_eq_true rfl) ⟨Nat.zero_le _, Nat.zero_le _⟩ dX8_restore_40 rfl rfl ?_
      refine w_iconst (pc2 := 44) G dX8_restore_43 k_iconst_1 rfl ?_
      cases h
      exact w_iret G hQ rfl ⟨rfl, rfl⟩ dX8_restore_44
    · replace h := (if_pos cc).symm.trans h
      refine w_bipush (pc2 := 24) G dX8_restore_22 k_bipush_m3 rfl ?_
      cases h
      exact w_iret G hQ rfl ⟨rfl, rfl⟩ dX8_restore_24
  · replace h := (if_pos cc).symm.trans h
    refine w_bipush (pc2 := 12) G dX8_restore_10 k_bipush_m2 rfl ?_
    cases h
    exact w_iret G hQ rfl ⟨rfl, rfl⟩ dX8_restore_12

set_option maxHeartbeats 4000000 in
set_option maxRecDepth 100000 in
theorem r_X8_told {l : Launch} {E : EV} {a : Nat → Nat} {o : Nat} {c_seed : Int32} {c_is c_sightOne c_sightOther : Nat → Int32} {c_sights : Int32} {c_pad : Nat → Int32} {c_padMany : Int32} {c_act c_which c_key c_other : Nat → Int32} {c_acts : Int32} {c_order : Nat → Int32} {c_digest : Nat → Int64} {c_tall c_had : Nat → Int32} {c_badAct c_badWhy c_alikeAct c_alikeTwo c_work c_isWorked : Int32} {c_trees : Nat → Int64} {c_from c_upTo : Nat → Int32} {c_shape : Nat → Int64} {c_kept c_isKept : Nat → Int32} {c_keptAt c_isWriting : Int32} {l1 : Int32} {R : Int32 × (Nat → Int32) × (Nat → Int64) × (Nat → Int32)} (h : f_X8_told c_seed c_is c_sights c_padMany c_order c_digest c_tall l1 = some R) : Ret1 l E yX8_told cX8_told 2 (some .int) 6 (wX8 E a o c_seed c_is c_sightOne c_sightOther c_sights c_pad c_padMany c_act c_which c_key c_other c_acts c_order c_digest c_tall c_had c_badAct c_badWhy c_alikeAct c_alikeTwo c_work c_isWorked c_trees c_from c_upTo c_shape c_kept c_isKept c_keptAt c_isWriting) [.ref (a o), .int l1] (some (.int R.1)) (wX8 E a o c_seed c_is c_sightOne c_sightOther c_sights c_pad c_padMany c_act c_which c_key c_other c_acts R.2.1 R.2.2.1 R.2.2.2 c_had c_badAct c_badWhy c_alikeAct c_alikeTwo c_work c_isWorked c_trees c_from c_upTo c_shape c_kept c_isKept c_keptAt c_isWriting) := by
  refine Ret.intro (lv := [(0, .ref (a o)), (1, .int l1)]) (by decide) (Nat.le_of_ble_eq_true rfl) rfl ?_
  intro g hgl G hQ
  subst hgl
  rw [f_X8_told] at h
  refine w_iload_n (pc2 := 1) G 1 rfl dX8_told_0 rfl rfl ?_
  refine w_i2l (pc2 := 2) G dX8_told_1 rfl ?_
  refine w_ldc2 (pc2 := 5) G wd_376 dX8_told_2 rfl ?_
  refine w_ldc2 (pc2 := 8) G wd_377 dX8_told_5 rfl ?_
  obtain ⟨x1, H_x1, h⟩ := bs h
  refine w_cS0 (pc2 := 11) (As := [.long l1.toInt64, .long (100 : Int64), .long (449 : Int64)]) (rest := []) G koX8_68 (r_X8_in H_x1) (Nat.le_of_ble_eq_true rfl) rfl rfl (Nat.le_of_ble_eq_true rfl) ⟨Nat.zero_le _, Nat.zero_le _⟩ dX8_told_8 rfl rfl ?_
  refine w_if_eq (tgt := 43) (pc2 := 14) G dX8_told_11 (by decide) rfl (fun cc => ?_) (fun cc => ?_)
  · replace h := (if_pos cc).symm.trans h
    refine w_iload_n (pc2 := 44) G 1 rfl dX8_told_43 rfl rfl ?_
    refine w_i2l (pc2 := 45) G dX8_told_44 rfl ?_
    refine w_ldc2 (pc2 := 48) G wd_378 dX8_told_45 rfl ?_
    refine w_ldc2 (pc2 := 51) G wd_379 dX8_told_48 rfl ?_
    obtain ⟨x2, H_x2, h⟩ := bs h
    refine w_cS0 (pc2 := 54) (As := [.long l1.toInt64, .long (10 : Int64), .long (13 : Int64)]) (rest := []) G koX8_68 (r_X8_in H_x2) (Nat.le_of_ble_eq_true rfl) rfl rfl (Nat.le_of_ble_eq_true rfl) ⟨Nat.zero_le _, Nat.zero_le _⟩ dX8_told_51 rfl rfl ?_
    refine w_if_eq (tgt := 66) (pc2 := 57) G dX8_told_54 (by decide) rfl (fun cc => ?_) (fun cc => ?_)
    · replace h := (if_pos cc).symm.trans h
      refine w_iload_n (pc2 := 67) G 1 rfl dX8_told_66 rfl rfl ?_
      refine w_i2l (pc2 := 68) G dX8_told_67 rfl ?_
      refine w_ldc2 (pc2 := 71) G wd_354 dX8_told_68 rfl ?_
      refine w_ldc2 (pc2 := 74) G wd_380 dX8_told_71 rfl ?_
      obtain ⟨x3, H_x3, h⟩ := bs h
      refine w_cS0 (pc2 := 77) (As := [.long l1.toInt64, .long (20 : Int64), .long (23 : Int64)]) (rest := []) G koX8_68 (r_X8_in H_x3) (Nat.le_of_ble_eq_true rfl) rfl rfl (Nat.le_of_ble_eq_true rfl) ⟨Nat.zero_le _, Nat.zero_le _⟩ dX8_told_74 rfl rfl ?_
      refine w_if_eq (tgt := 92) (pc2 := 80) G dX8_told_77 (by decide) rfl (fun cc => ?_) (fun cc => ?_)
      · replace h := (if_pos cc).symm.trans h
        refine w_iload_n (pc2 := 93) G 1 rfl dX8_told_92 rfl rfl ?_
        refine w_if_ne (tgt := 103) (pc2 := 96) G dX8_told_93 (by decide) rfl (fun cc => ?_) (fun cc => ?_)
        · replace h := (if_neg cc).symm.trans h
          refine w_iload_n (pc2 := 104) G 1 rfl dX8_told_103 rfl rfl ?_
          refine w_iconst (pc2 := 105) G dX8_told_104 k_iconst_1 rfl ?_
          refine w_icmp_ne (tgt := 115) (pc2 := 108) G dX8_told_105 (by decide) rfl (fun cc => ?_) (fun cc => ?_)
          · replace h := (if_neg cc).symm.trans h
            refine w_iload_n (pc2 := 116) G 1 rfl dX8_told_115 rfl rfl ?_
            refine w_iconst (pc2 := 117) G dX8_told_116 k_iconst_2 rfl ?_
            refine w_icmp_ne (tgt := 127) (pc2 := 120) G dX8_told_117 (by decide) rfl (fun cc => ?_) (fun cc => ?_)
            · replace h := (if_neg cc).symm.trans h
              refine w_bipush (pc2 := 129) G dX8_told_127 k_bipush_m2 rfl ?_
              cases h
              exact w_iret G hQ rfl ⟨rfl, rfl⟩ dX8_told_129
            · replace h := (if_pos cc).symm.trans h
              refine w_aload_n (pc2 := 121) G 0 rfl dX8_told_120 rfl rfl ?_
              refine w_get (pc2 := 124) G foX8_293 0 rfl rfl dX8_told_121 rfl ?_
              refine w_goto (tgt := 129) G dX8_told_124 (by decide) ?_
              cases h
              exact w_iret G hQ rfl ⟨rfl, rfl⟩ dX8_told_129
          · replace h := (if_pos cc).symm.trans h
            refine w_aload_n (pc2 := 109) G 0 rfl dX8_told_108 rfl rfl ?_
            refine w_get (pc2 := 112) G foX8_78 0 rfl rfl dX8_told_109 rfl ?_
            refine w_goto (tgt := 129) G dX8_told_112 (by decide) ?_
            cases h
            exact w_iret G hQ rfl ⟨rfl, rfl⟩ dX8_told_129
        · replace h := (if_pos cc).symm.trans h
          refine w_aload_n (pc2 := 97) G 0 rfl dX8_told_96 rfl rfl ?_
          refine w_get (pc2 := 100) G foX8_107 0 rfl rfl dX8_told_97 rfl ?_
          refine w_goto (tgt := 129) G dX8_told_100 (by decide) ?_
          cases h
          exact w_iret G hQ rfl ⟨rfl, rfl⟩ dX8_told_129
      · replace h := (if_neg cc).symm.trans h
        refine w_aload_n (pc2 := 81) G 0 rfl dX8_told_80 rfl rfl ?_
        refine w_iload_n (pc2 := 82) G 1 rfl dX8_told_81 rfl rfl ?_
        refine w_bipush (pc2 := 84) G dX8_told_82 k_bipush_20 rfl ?_
        refine w_isub (pc2 := 85) G dX8_told_84 rfl ?_
        refine w_iconst (pc2 := 86) G dX8_told_85 k_iconst_0 rfl ?_
        refine w_bipush (pc2 := 88) G dX8_told_86 k_bipush_49 rfl ?_
        obtain ⟨x4, H_x4, h⟩ := bs h
        refine w_cV0 (pc2 := 91) (ws2 := (wX8 E a o c_seed c_is c_sightOne c_sightOther c_sights c_pad c_padMany c_act c_which c_key c_other c_acts x4.2.1 x4.2.2.1 x4.2.2.2 c_had c_badAct c_badWhy c_alikeAct c_alikeTwo c_work c_isWorked c_trees c_from c_upTo c_shape c_kept c_isKept c_keptAt c_isWriting)) (As := [.int (l1 - (20 : Int32)), .int (0 : Int32), .int (49 : Int32)]) (rest := []) G koX8_260 (r_X8_digestOf H_x4) (Nat.le_of_ble_eq_true rfl) 8 rfl rfl rfl rfl (Nat.le_of_ble_eq_true rfl) ⟨Nat.zero_le _, Nat.zero_le _⟩ dX8_told_88 rfl rfl ?_
        cases h
        exact w_iret G hQ rfl ⟨rfl, rfl⟩ dX8_told_91
    · replace h := (if_neg cc).symm.trans h
      refine w_aload_n (pc2 := 58) G 0 rfl dX8_told_57 rfl rfl ?_
      refine w_iload_n (pc2 := 59) G 1 rfl dX8_told_58 rfl rfl ?_
      refine w_bipush (pc2 := 61) G dX8_told_59 k_bipush_10 rfl ?_
      refine w_isub (pc2 := 62) G dX8_told_61 rfl ?_
      obtain ⟨x5, H_x5, h⟩ := bs h
      refine w_cV0 (pc2 := 65) (ws2 := (wX8 E a o c_seed c_is c_sightOne c_sightOther c_sights c_pad c_padMany c_act c_which c_key c_other c_acts c_order c_digest c_tall c_had c_badAct c_badWhy c_alikeAct c_alikeTwo c_work c_isWorked c_trees c_from c_upTo c_shape c_kept c_isKept c_keptAt c_isWriting)) (As := [.int (l1 - (10 : Int32))]) (rest := []) G koX8_99 (r_X8_many H_x5) (Nat.le_of_ble_eq_true rfl) 8 rfl rfl rfl rfl (Nat.le_of_ble_eq_true rfl) ⟨Nat.zero_le _, Nat.zero_le _⟩ dX8_told_62 rfl rfl ?_
      cases h
      exact w_iret G hQ rfl ⟨rfl, rfl⟩ dX8_told_65
  · replace h := (if_neg cc).symm.trans h
    refine w_iload_n (pc2 := 15) G 1 rfl dX8_told_14 rfl rfl ?_
    refine w_bipush (pc2 := 17) G dX8_told_15 k_bipush_100 rfl ?_
    refine w_irem (pc2 := 18) G dX8_told_17 (by decide) rfl ?_
    refine w_bipush (pc2 := 20) G dX8_told_18 k_bipush_50 rfl ?_
    refine w_icmp_ge (tgt := 43) (pc2 := 23) G dX8_told_20 (by decide) rfl (fun cc => ?_) (fun cc => ?_)
    · replace h := (if_pos cc).symm.trans h
      refine w_iload_n (pc2 := 44) G 1 rfl dX8_told_43 rfl rfl ?_
      refine w_i2l (pc2 := 45) G dX8_told_44 rfl ?_
      refine w_ldc2 (pc2 := 48) G wd_378 dX8_told_45 rfl ?_
      refine w_ldc2 (pc2 := 51) G wd_379 dX8_told_48 rfl ?_
      obtain ⟨x6, H_x6, h⟩ := bs h
      refine w_cS0 (pc2 := 54) (As := [.long l1.toInt64, .long (10 : Int64), .long (13 : Int64)]) (rest := []) G koX8_68 (r_X8_in H_x6) (Nat.le_of_ble_eq_true rfl) rfl rfl (Nat.le_of_ble_eq_true rfl) ⟨Nat.zero_le _, Nat.zero_le _⟩ dX8_told_51 rfl rfl ?_
      refine w_if_eq (tgt := 66) (pc2 := 57) G dX8_told_54 (by decide) rfl (fun cc => ?_) (fun cc => ?_)
      · replace h := (if_pos cc).symm.trans h
        refine w_iload_n (pc2 := 67) G 1 rfl dX8_told_66 rfl rfl ?_
        refine w_i2l (pc2 := 68) G dX8_told_67 rfl ?_
        refine w_ldc2 (pc2 := 71) G wd_354 dX8_told_68 rfl ?_
        refine w_ldc2 (pc2 := 74) G wd_380 dX8_told_71 rfl ?_
        obtain ⟨x7, H_x7, h⟩ := bs h
        refine w_cS0 (pc2 := 77) (As := [.long l1.toInt64, .long (20 : Int64), .long (23 : Int64)]) (rest := []) G koX8_68 (r_X8_in H_x7) (Nat.le_of_ble_eq_true rfl) rfl rfl (Nat.le_of_ble_eq_true rfl) ⟨Nat.zero_le _, Nat.zero_le _⟩ dX8_told_74 rfl rfl ?_
        refine w_if_eq (tgt := 92) (pc2 := 80) G dX8_told_77 (by decide) rfl (fun cc => ?_) (fun cc => ?_)
        · replace h := (if_pos cc).symm.trans h
          refine w_iload_n (pc2 := 93) G 1 rfl dX8_told_92 rfl rfl ?_
          refine w_if_ne (tgt := 103) (pc2 := 96) G dX8_told_93 (by decide) rfl (fun cc => ?_) (fun cc => ?_)
          · replace h := (if_neg cc).symm.trans h
            refine w_iload_n (pc2 := 104) G 1 rfl dX8_told_103 rfl rfl ?_
            refine w_iconst (pc2 := 105) G dX8_told_104 k_iconst_1 rfl ?_
            refine w_icmp_ne (tgt := 115) (pc2 := 108) G dX8_told_105 (by decide) rfl (fun cc => ?_) (fun cc => ?_)
            · replace h := (if_neg cc).symm.trans h
              refine w_iload_n (pc2 := 116) G 1 rfl dX8_told_115 rfl rfl ?_
              refine w_iconst (pc2 := 117) G dX8_told_116 k_iconst_2 rfl ?_
              refine w_icmp_ne (tgt := 127) (pc2 := 120) G dX8_told_117 (by decide) rfl (fun cc => ?_) (fun cc => ?_)
              · replace h := (if_neg cc).symm.trans h
                refine w_bipush (pc2 := 129) G dX8_told_127 k_bipush_m2 rfl ?_
                cases h
                exact w_iret G hQ rfl ⟨rfl, rfl⟩ dX8_told_129
              · replace h := (if_pos cc).symm.trans h
                refine w_aload_n (pc2 := 121) G 0 rfl dX8_told_120 rfl rfl ?_
                refine w_get (pc2 := 124) G foX8_293 0 rfl rfl dX8_told_121 rfl ?_
                refine w_goto (tgt := 129) G dX8_told_124 (by decide) ?_
                cases h
                exact w_iret G hQ rfl ⟨rfl, rfl⟩ dX8_told_129
            · replace h := (if_pos cc).symm.trans h
              refine w_aload_n (pc2 := 109) G 0 rfl dX8_told_108 rfl rfl ?_
              refine w_get (pc2 := 112) G foX8_78 0 rfl rfl dX8_told_109 rfl ?_
              refine w_goto (tgt := 129) G dX8_told_112 (by decide) ?_
              cases h
              exact w_iret G hQ rfl ⟨rfl, rfl⟩ dX8_told_129
          · replace h := (if_pos cc).symm.trans h
            refine w_aload_n (pc2 := 97) G 0 rfl dX8_told_96 rfl rfl ?_
            refine w_get (pc2 := 100) G foX8_107 0 rfl rfl dX8_told_97 rfl ?_
            refine w_goto (tgt := 129) G dX8_told_100 (by decide) ?_
            cases h
            exact w_iret G hQ rfl ⟨rfl, rfl⟩ dX8_told_129
        · replace h := (if_neg cc).symm.trans h
          refine w_aload_n (pc2 := 81) G 0 rfl dX8_told_80 rfl rfl ?_
          refine w_iload_n (pc2 := 82) G 1 rfl dX8_told_81 rfl rfl ?_
          refine w_bipush (pc2 := 84) G dX8_told_82 k_bipush_20 rfl ?_
          refine w_isub (pc2 := 85) G dX8_told_84 rfl ?_
          refine w_iconst (pc2 := 86) G dX8_told_85 k_iconst_0 rfl ?_
          refine w_bipush (pc2 := 88) G dX8_told_86 k_bipush_49 rfl ?_
          obtain ⟨x8, H_x8, h⟩ := bs h
          refine w_cV0 (pc2 := 91) (ws2 := (wX8 E a o c_seed c_is c_sightOne c_sightOther c_sights c_pad c_padMany c_act c_which c_key c_other c_acts x8.2.1 x8.2.2.1 x8.2.2.2 c_had c_badAct c_badWhy c_alikeAct c_alikeTwo c_work c_isWorked c_trees c_from c_upTo c_shape c_kept c_isKept c_keptAt c_isWriting)) (As := [.int (l1 - (20 : Int32)), .int (0 : Int32), .int (49 : Int32)]) (rest := []) G koX8_260 (r_X8_digestOf H_x8) (Nat.le_of_ble_eq_true rfl) 8 rfl rfl rfl rfl (Nat.le_of_ble_eq_true rfl) ⟨Nat.zero_le _, Nat.zero_le _⟩ dX8_told_88 rfl rfl ?_
          cases h
          exact w_iret G hQ rfl ⟨rfl, rfl⟩ dX8_told_91
      · replace h := (if_neg cc).symm.trans h
        refine w_aload_n (pc2 := 58) G 0 rfl dX8_told_57 rfl rfl ?_
        refine w_iload_n (pc2 := 59) G 1 rfl dX8_told_58 rfl rfl ?_
        refine w_bipush (pc2 := 61) G dX8_told_59 k_bipush_10 rfl ?_
        refine w_isub (pc2 := 62) G dX8_told_61 rfl ?_
        obtain ⟨x9, H_x9, h⟩ := bs h
        refine w_cV0 (pc2 := 65) (ws2 := (wX8 E a o c_seed c_is c_sightOne c_sightOther c_sights c_pad c_padMany c_act c_which c_key c_other c_acts c_order c_digest c_tall c_had c_badAct c_badWhy c_alikeAct c_alikeTwo c_work c_isWorked c_trees c_from c_upTo c_shape c_kept c_isKept c_keptAt c_isWriting)) (As := [.int (l1 - (10 : Int32))]) (rest := []) G koX8_99 (r_X8_many H_x9) (Nat.le_of_ble_eq_true rfl) 8 rfl rfl rfl rfl (Nat.le_of_ble_eq_true rfl) ⟨Nat.zero_le _, Nat.zero_le _⟩ dX8_told_62 rfl rfl ?_
        cases h
        exact w_iret G hQ rfl ⟨rfl, rfl⟩ dX8_told_65
    · replace h := (if_neg cc).symm.trans h
      refine w_aload_n (pc2 := 24) G 0 rfl dX8_told_23 rfl rfl ?_
      refine w_get (pc2 := 27) G foX8_7 0 rfl rfl dX8_told_24 rfl ?_
      refine w_bipush (pc2 := 29) G dX8_told_27 k_bipush_50 rfl ?_
      refine w_iload_n (pc2 := 30) G 1 rfl dX8_told_29 rfl rfl ?_
      refine w_bipush (pc2 := 32) G dX8_told_30 k_bipush_100 rfl ?_
      refine w_idiv (pc2 := 33) G dX8_told_32 (by decide) rfl ?_
      refine w_iconst (pc2 := 34) G dX8_told_33 k_iconst_1 rfl ?_
      refine w_isub (pc2 := 35) G dX8_told_34 rfl ?_
      refine w_imul (pc2 := 36) G dX8_told_35 rfl ?_
      refine w_iload_n (pc2 := 37) G 1 rfl dX8_told_36 rfl rfl ?_
      refine w_bipush (pc2 := 39) G dX8_told_37 k_bipush_100 rfl ?_
      refine w_irem (pc2 := 40) G dX8_told_39 (by decide) rfl ?_
      refine w_iadd (pc2 := 41) G dX8_told_40 rfl ?_
      obtain ⟨v10, H_v10, h⟩ := bs h
      refine w_ialdo (pc2 := 42) G 1 rfl H_v10 dX8_told_41 rfl ?_
      cases h
      exact w_iret G hQ rfl ⟨rfl, rfl⟩ dX8_told_42
