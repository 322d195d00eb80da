set_option maxHeartbeats 4000000 in
set_option maxRecDepth 100000 in
theorem r_X8_goOne {l : Launch} {E : EV} {a : Nat → Nat} {o : Nat} {c_seed : Int32} {c_is c_sightOne c_sightOther : Nat → Int32} {c_sights : Int32} {c_pad : Nat → Int32} {c_padMany : Int32} {c_act c_which c_key c_other : Nat → Int32} {c_acts : Int32} {c_order : Nat → Int32} {c_digest : Nat → Int64} {c_tall c_had : Nat → Int32} {c_badAct c_badWhy c_alikeAct c_alikeTwo c_work c_isWorked : Int32} {c_trees : Nat → Int64} {c_from c_upTo : Nat → Int32} {c_shape : Nat → Int64} {c_kept c_isKept : Nat → Int32} {c_keptAt c_isWriting : Int32} {l1 : Int32} {R : Int32 × (Nat → Int32) × Int32 × Int32 × Int32 × (Nat → Int64)} (h : f_X8_goOne c_seed c_is c_act c_which c_key c_other c_alikeAct c_alikeTwo c_work c_isWorked c_trees l1 = some R) : Ret1 l E yX8_goOne cX8_goOne 4 none 6 (wX8 E a o c_seed c_is c_sightOne c_sightOther c_sights c_pad c_padMany c_act c_which c_key c_other c_acts c_order c_digest c_tall c_had c_badAct c_badWhy c_alikeAct c_alikeTwo c_work c_isWorked c_trees c_from c_upTo c_shape c_kept c_isKept c_keptAt c_isWriting) [.ref (a o), .int l1] none (wX8 E a o R.1 R.2.1 c_sightOne c_sightOther c_sights c_pad c_padMany c_act c_which c_key c_other c_acts c_order c_digest c_tall c_had c_badAct c_badWhy R.2.2.1 R.2.2.2.1 R.2.2.2.2.1 c_isWorked R.2.2.2.2.2 c_from c_upTo c_shape c_kept c_isKept c_keptAt c_isWriting) := by
  refine Ret.intro (lv := [(0, .ref (a o)), (1, .int l1)]) (by decide) (Nat.le_of_ble_eq_true rfl) rfl ?_
  intro g hgl G hQ
  subst hgl
  rw [f_X8_goOne] at h
  refine w_aload_n (pc2 := 1) G 0 rfl dX8_goOne_0 rfl rfl ?_
  obtain ⟨x1, H_x1, h⟩ := bs h
  refine w_cV0 (pc2 := 4) (ws2 := (wX8 E a o c_seed c_is c_sightOne c_sightOther c_sights c_pad c_padMany c_act c_which c_key c_other c_acts c_order c_digest c_tall c_had c_badAct c_badWhy c_alikeAct c_alikeTwo c_work c_isWorked c_trees c_from c_upTo c_shape c_kept c_isKept c_keptAt c_isWriting)) (As := []) (rest := []) G koX8_200 (r_X8_alikeOnes H_x1) (Nat.le_of_ble_eq_true rfl) 8 rfl rfl rfl rfl (Nat.le_of_ble_eq_true rfl) ⟨Nat.zero_le _, Nat.zero_le _⟩ dX8_goOne_1 rfl rfl ?_
  refine w_istore_n (pc2 := 5) (lv2 := [(2, .int x1), (0, .ref (a o)), (1, .int l1)]) G dX8_goOne_4 rfl (Nat.le_of_ble_eq_true rfl) rfl rfl ?_
  refine w_aload_n (pc2 := 6) G 1 rfl dX8_goOne_5 rfl rfl ?_
  refine w_get (pc2 := 9) G foX8_203 0 rfl rfl dX8_goOne_6 rfl ?_
  obtain ⟨x3, h0, h⟩ := bs h
  have K_x3 : WW g E 4 0 0 (wX8 E a o c_seed c_is c_sightOne c_sightOther c_sights c_pad c_padMany c_act c_which c_key c_other c_acts c_order c_digest c_tall c_had c_badAct c_badWhy c_alikeAct c_alikeTwo c_work c_isWorked x3 c_from c_upTo c_shape c_kept c_isKept c_keptAt c_isWriting) [(2, .int x1), (0, .ref (a o)), (1, .int l1)] 16 [] := by
    clear h0
    refine w_aload_n (pc2 := 17) G 1 rfl dX8_goOne_16 rfl rfl ?_
    refine w_aload_n (pc2 := 18) G 1 rfl dX8_goOne_17 rfl rfl ?_
    refine w_get (pc2 := 21) G foX8_22 0 rfl rfl dX8_goOne_18 rfl ?_
    refine w_iload_n (pc2 := 22) G 2 rfl dX8_goOne_21 rfl rfl ?_
    obtain ⟨v4, H_v4, h⟩ := bs h
    refine w_ialdo (pc2 := 23) G 5 rfl H_v4 dX8_goOne_22 rfl ?_
    refine w_aload_n (pc2 := 24) G 1 rfl dX8_goOne_23 rfl rfl ?_
    refine w_get (pc2 := 27) G foX8_25 0 rfl rfl dX8_goOne_24 rfl ?_
    refine w_iload_n (pc2 := 28) G 2 rfl dX8_goOne_27 rfl rfl ?_
    obtain ⟨v5, H_v5, h⟩ := bs h
    refine w_ialdo (pc2 := 29) G 6 rfl H_v5 dX8_goOne_28 rfl ?_
    refine w_aload_n (pc2 := 30) G 1 rfl dX8_goOne_29 rfl rfl ?_
    refine w_get (pc2 := 33) G foX8_28 0 rfl rfl dX8_goOne_30 rfl ?_
    refine w_iload_n (pc2 := 34) G 2 rfl dX8_goOne_33 rfl rfl ?_
    obtain ⟨v6, H_v6, h⟩ := bs h
    refine w_ialdo (pc2 := 35) G 7 rfl H_v6 dX8_goOne_34 rfl ?_
    refine w_aload_n (pc2 := 36) G 1 rfl dX8_goOne_35 rfl rfl ?_
    refine w_get (pc2 := 39) G foX8_31 0 rfl rfl dX8_goOne_36 rfl ?_
    refine w_iload_n (pc2 := 40) G 2 rfl dX8_goOne_39 rfl rfl ?_
    obtain ⟨v7, H_v7, h⟩ := bs h
    refine w_ialdo (pc2 := 41) G 8 rfl H_v7 dX8_goOne_40 rfl ?_
    obtain ⟨x8, H_x8, h⟩ := bs h
    refine w_cV0 (pc2 := 44) (ws2 := (wX8 E a o x8.1 x8.2 c_sightOne c_sightOther c_sights c_pad c_padMany c_act c_which c_key c_other c_acts c_order c_digest c_tall c_had c_badAct c_badWhy c_alikeAct c_alikeTwo c_work c_isWorked x3 c_from c_upTo c_shape c_kept c_isKept c_keptAt c_isWriting)) (As := [.int v4, .int v5, .int v6, .int v7]) (rest := []) G koX8_210 (r_X8_happen H_x8) (Nat.le_of_ble_eq_true rfl) 8 rfl rfl rfl rfl (Nat.le_of_ble_eq_true rfl) ⟨Nat.zero_le _, Nat.zero_le _⟩ dX8_goOne_41 rfl rfl ?_
    refine w_aload_n (pc2 := 45) G 1 rfl dX8_goOne_44 rfl rfl ?_
    refine w_dup (pc2 := 46) G dX8_goOne_45 rfl rfl ?_
    refine w_get (pc2 := 49) G foX8_213 0 rfl rfl dX8_goOne_46 rfl ?_
    refine w_aload_n (pc2 := 50) G 1 rfl dX8_goOne_49 rfl rfl ?_
    refine w_get (pc2 := 53) G foX8_203 0 rfl rfl dX8_goOne_50 rfl ?_
    obtain ⟨x10, h0, h⟩ := bs h
    have K_x10 : WW g E 4 0 0 (wX8 E a o x8.1 x8.2 c_sightOne c_sightOther c_sights c_pad c_padMany c_act c_which c_key c_other c_acts c_order c_digest c_tall c_had c_badAct c_badWhy c_alikeAct c_alikeTwo c_work c_isWorked x3 c_from c_upTo c_shape c_kept c_isKept c_keptAt c_isWriting) [(2, .int x1), (0, .ref (a o)), (1, .int l1)] 64 [.int x10, .int c_work, .ref (a o)] := by
      clear h0
      refine w_iadd (pc2 := 65) G dX8_goOne_64 rfl ?_
      refine w_put (pc2 := 68) (ws2 := (wX8 E a o x8.1 x8.2 c_sightOne c_sightOther c_sights c_pad c_padMany c_act c_which c_key c_other c_acts c_order c_digest c_tall c_had c_badAct c_badWhy c_alikeAct c_alikeTwo (c_work + x10) c_isWorked x3 c_from c_upTo c_shape c_kept c_isKept c_keptAt c_isWriting)) G foX8_213 tokX8 0 rfl rfl rfl rfl (Nat.le_of_ble_eq_true rfl) rfl dX8_goOne_65 rfl ?_
      refine w_aload_n (pc2 := 69) G 1 rfl dX8_goOne_68 rfl rfl ?_
      obtain ⟨x11, H_x11, h⟩ := bs h
      refine w_cV0 (pc2 := 72) (ws2 := (wX8 E a o x8.1 x8.2 c_sightOne c_sightOther c_sights c_pad c_padMany c_act c_which c_key c_other c_acts c_order c_digest c_tall c_had c_badAct c_badWhy c_alikeAct c_alikeTwo (c_work + x10) c_isWorked x3 c_from c_upTo c_shape c_kept c_isKept c_keptAt c_isWriting)) (As := []) (rest := []) G koX8_200 (r_X8_alikeOnes H_x11) (Nat.le_of_ble_eq_true rfl) 8 rfl rfl rfl rfl (Nat.le_of_ble_eq_true rfl) ⟨Nat.zero_le _, Nat.zero_le _⟩ dX8_goOne_69 rfl rfl ?_
      refine w_iload_n (pc2 := 73) G 0 rfl dX8_goOne_72 rfl rfl ?_
      refine w_iconst (pc2 := 74) G dX8_goOne_73 k_iconst_m1 rfl ?_
      refine w_ixor (pc2 := 75) G dX8_goOne_74 rfl ?_
      refine w_iand (pc2 := 76) G dX8_goOne_75 rfl ?_
      refine w_istore_n (pc2 := 77) (lv2 := [(3, .int (x11 &&& (x1 ^^^ (-1 : Int32)))), (2, .int x1), (0, .ref (a o)), (1, .int l1)]) G dX8_goOne_76 rfl (Nat.le_of_ble_eq_true rfl) rfl rfl ?_
      refine w_iload_n (pc2 := 78) G 0 rfl dX8_goOne_77 rfl rfl ?_
      refine w_if_eq (tgt := 113) (pc2 := 81) G dX8_goOne_78 (by decide) rfl (fun cc => ?_) (fun cc => ?_)
      · replace h := (if_pos cc).symm.trans h
        cases h
        exact w_vret G hQ rfl ⟨rfl, rfl⟩ dX8_goOne_113
      · replace h := (if_neg cc).symm.trans h
        refine w_aload_n (pc2 := 82) G 2 rfl dX8_goOne_81 rfl rfl ?_
        refine w_get (pc2 := 85) G foX8_219 0 rfl rfl dX8_goOne_82 rfl ?_
        refine w_if_ge (tgt := 113) (pc2 := 88) G dX8_goOne_85 (by decide) rfl (fun cc => ?_) (fun cc => ?_)
        · replace h := (if_pos cc).symm.trans h
          cases h
          exact w_vret G hQ rfl ⟨rfl, rfl⟩ dX8_goOne_113
        · replace h := (if_neg cc).symm.trans h
          refine w_aload_n (pc2 := 89) G 2 rfl dX8_goOne_88 rfl rfl ?_
          refine w_iload_n (pc2 := 90) G 3 rfl dX8_goOne_89 rfl rfl ?_
          refine w_put (pc2 := 93) (ws2 := (wX8 E a o x8.1 x8.2 c_sightOne c_sightOther c_sights c_pad c_padMany c_act c_which c_key c_other c_acts c_order c_digest c_tall c_had c_badAct c_badWhy l1 c_alikeTwo (c_work + x10) c_isWorked x3 c_from c_upTo c_shape c_kept c_isKept c_keptAt c_isWriting)) G foX8_219 tokX8 0 rfl rfl rfl rfl (Nat.le_of_ble_eq_true rfl) rfl dX8_goOne_90 rfl ?_
          refine w_aload_n (pc2 := 94) G 2 rfl dX8_goOne_93 rfl rfl ?_
          refine w_bipush (pc2 := 96) G dX8_goOne_94 k_bipush_10 rfl ?_
          refine w_iload_n (pc2 := 97) G 0 rfl dX8_goOne_96 rfl rfl ?_
          obtain ⟨x12, H_x12, h⟩ := bs h
          refine w_cS0 (pc2 := 100) (As := [.int (x11 &&& (x1 ^^^ (-1 : Int32)))]) (rest := [.int (10 : Int32), .ref (a o)]) G koX8_222 (r_X8_leastOf H_x12) (Nat.le_of_ble_eq_true rfl) rfl rfl (Nat.le_of_ble_eq_true rfl) ⟨Nat.zero_le _, Nat.zero_le _⟩ dX8_goOne_97 rfl rfl ?_
          refine w_iconst (pc2 := 101) G dX8_goOne_100 k_iconst_4 rfl ?_
          refine w_idiv (pc2 := 102) G dX8_goOne_101 (by decide) rfl ?_
          refine w_imul (pc2 := 103) G dX8_goOne_102 rfl ?_
          refine w_iload_n (pc2 := 104) G 0 rfl dX8_goOne_103 rfl rfl ?_
          obtain ⟨x13, H_x13, h⟩ := bs h
          refine w_cS0 (pc2 := 107) (As := [.int (x11 &&& (x1 ^^^ (-1 : Int32)))]) (rest := [.int ((10 : Int32) * (x12 / (4 : Int32))), .ref (a o)]) G koX8_222 (r_X8_leastOf H_x13) (Nat.le_of_ble_eq_true rfl) rfl rfl (Nat.le_of_ble_eq_true rfl) ⟨Nat.zero_le _, Nat.zero_le _⟩ dX8_goOne_104 rfl rfl ?_
          refine w_iconst (pc2 := 108) G dX8_goOne_107 k_iconst_4 rfl ?_
          refine w_irem (pc2 := 109) G dX8_goOne_108 (by decide) rfl ?_
          refine w_iadd (pc2 := 110) G dX8_goOne_109 rfl ?_
          refine w_put (pc2 := 113) (ws2 := (wX8 E a o x8.1 x8.2 c_sightOne c_sightOther c_sights c_pad c_padMany c_act c_which c_key c_other c_acts c_order c_digest c_tall c_had c_badAct c_badWhy l1 (((10 : Int32) * (x12 / (4 : Int32))) + (x13 - x13 / (4 : Int32) * (4 : Int32))) (c_work + x10) c_isWorked x3 c_from c_upTo c_shape c_kept c_isKept c_keptAt c_isWriting)) G foX8_225 tokX8 0 rfl rfl rfl rfl (Nat.le_of_ble_eq_true rfl) rfl dX8_goOne_110 rfl ?_
          cases h
          exact w_vret G hQ rfl ⟨rfl, rfl⟩ dX8_goOne_113
    replace h := h0
    clear h0
    refine w_if_eq (tgt := 63) (pc2 := 56) G dX8_goOne_53 (by decide) rfl (fun cc => ?_) (fun cc => ?_)
    · replace h := (if_pos cc).symm.trans h
      refine w_iconst (pc2 := 64) G dX8_goOne_63 k_iconst_0 rfl ?_
      cases h
      exact w_lv [0, 1, 2] rfl K_x10
    · replace h := (if_neg cc).symm.trans h
      refine w_aload_n (pc2 := 57) G 1 rfl dX8_goOne_56 rfl rfl ?_
      obtain ⟨x9, H_x9, h⟩ := bs h
      refine w_cV0 (pc2 := 60) (ws2 := (wX8 E a o x8.1 x8.2 c_sightOne c_sightOther c_sights c_pad c_padMany c_act c_which c_key c_other c_acts c_order c_digest c_tall c_had c_badAct c_badWhy c_alikeAct c_alikeTwo c_work c_isWorked x3 c_from c_upTo c_shape c_kept c_isKept c_keptAt c_isWriting)) (As := []) (rest := [.int c_work, .ref (a o)]) G koX8_216 (r_X8_workNow H_x9) (Nat.le_of_ble_eq_true rfl) 8 rfl rfl rfl rfl (Nat.le_of_ble_eq_true rfl) ⟨Nat.zero_le _, Nat.zero_le _⟩ dX8_goOne_57 rfl rfl ?_
      refine w_goto (tgt := 64) G dX8_goOne_60 (by decide) ?_
      cases h
      exact w_lv [0, 1, 2] rfl K_x10
  replace h := h0
  clear h0
  refine w_if_eq (tgt := 16) (pc2 := 12) G dX8_goOne_9 (by decide) rfl (fun cc => ?_) (fun cc => ?_)
  · replace h := (if_pos cc).symm.trans h
    cases h
    exact w_lv [0, 1, 2] rfl K_x3
  · replace h := (if_neg cc).symm.trans h
    refine w_aload_n (pc2 := 13) G 1 rfl dX8_goOne_12 rfl rfl ?_
    obtain ⟨x2, H_x2, h⟩ := bs h
    refine w_cV0 (pc2 := 16) (ws2 := (wX8 E a o c_seed c_is c_sightOne c_sightOther c_sights c_pad c_padMany c_act c_which c_key c_other c_acts c_order c_digest c_tall c_had c_badAct c_badWhy c_alikeAct c_alikeTwo c_work c_isWorked x2 c_from c_upTo c_shape c_kept c_isKept c_keptAt c_isWriting)) (As := []) (rest := []) G koX8_207 (r_X8_findTrees H_x2) (Nat.le_of_ble_eq_true rfl) 8 rfl rfl rfl rfl (Nat.le_of_ble_eq_true rfl) ⟨Nat.zero_le _, Nat.zero_le _⟩ dX8_goOne_13 rfl rfl ?_
    cases h
    exact w_lv [0, 1, 2] rfl K_x3

set_option maxHeartbeats 4000000 in
set_option maxRecDepth 100000 in
theorem lp_X8_goActs_31 {g : CX} {E : EV} {a : Nat → Nat} {o : Nat} {c_sightOne c_sightOther : Nat → Int32} {c_sights : Int32} {c_pad : Nat → Int32} {c_padMany : Int32} {c_order : Nat → Int32} {c_digest : Nat → Int64} {c_tall c_had c_from c_upTo : Nat → Int32} {c_shape : Nat → Int64} {c_kept c_isKept : Nat → Int32} {c_keptAt c_isWriting : Int32}  (G : GG g E RX8 cX8_goActs 3 none 7 0 0) : ∀ (n : Nat) (c_seed : Int32) (c_is : Nat → Int32) (c_act : Nat → Int32) (c_which : Nat → Int32) (c_key : Nat → Int32) (c_other : Nat → Int32) (c_acts : Int32) (c_badAct : Int32) (c_badWhy : Int32) (c_alikeAct : Int32) (c_alikeTwo : Int32) (c_work : Int32) (c_isWorked : Int32) (c_trees : Nat → Int64) (l1 : Int32) (R : Int32 × (Nat → Int32) × Int32 × Int32 × Int32 × Int32 × Int32 × (Nat → Int64)), L_X8_goActs_31 n c_seed c_is c_act c_which c_key c_other c_acts c_badAct c_badWhy c_alikeAct c_alikeTwo c_work c_isWorked c_trees l1 = some R → WW g E 3 0 0 (wX8 E a o R.1 R.2.1 c_sightOne c_sightOther c_sights c_pad c_padMany c_act c_which c_key c_other c_acts c_order c_digest c_tall c_had R.2.2.1 R.2.2.2.1 R.2.2.2.2.1 R.2.2.2.2.2.1 R.2.2.2.2.2.2.1 c_isWorked R.2.2.2.2.2.2.2 c_from c_upTo c_shape c_kept c_isKept c_keptAt c_isWriting) [] 118 [] → WW g E 3 0 0 (wX8 E a o c_seed c_is c_sightOne c_sightOther c_sights c_pad c_padMany c_act c_which c_key c_other c_acts c_order c_digest c_tall c_had c_badAct c_badWhy c_alikeAct c_alikeTwo c_work c_isWorked c_trees c_from c_upTo c_shape c_kept c_isKept c_keptAt c_isWriting) [(0, .ref (a o)), (1, .int l1)] 31 [] := by
  intro n
  induction n with
  | zero => intro c_seed c_is c_act c_which c_key c_other c_acts c_badAct c_badWhy c_alikeAct c_alikeTwo c_work c_isWorked c_trees l1 R h; exact no_some h
  | succ n ih =>
    intro c_seed c_is c_act c_which c_key c_other c_acts c_badAct c_badWhy c_alikeAct c_alikeTwo c_work c_isWorked c_trees l1 R h K
    rw [L_X8_goActs_31] at h
    refine w_iload_n (pc2 := 32) G 1 rfl dX8_goActs_31 rfl rfl ?_
    refine w_aload_n (pc2 := 33) G 0 rfl dX8_goActs_32 rfl rfl ?_
    refine w_get (pc2 := 36) G foX8_110 0 rfl rfl dX8_goActs_33 rfl ?_
    refine w_icmp_ge (tgt := 118) (pc2 := 39) G dX8_goActs_36 (by decide) rfl (fun cc => ?_) (fun cc => ?_)
    · replace h := (if_pos cc).symm.trans h
      cases h
      exact w_lv [] rfl K
    · replace h := (if_neg cc).symm.trans h
      refine w_aload_n (pc2 := 40) G 0 rfl dX8_goActs_39 rfl rfl ?_
      refine w_get (pc2 := 43) G foX8_228 0 rfl rfl dX8_goActs_40 rfl ?_
      refine w_if_ge (tgt := 118) (pc2 := 46) G dX8_goActs_43 (by decide) rfl (fun cc => ?_) (fun cc => ?_)
      · replace h := (if_pos cc).symm.trans h
        cases h
        exact w_lv [] rfl K
      · replace h := (if_neg cc).symm.trans h
        refine w_aload_n (pc2 := 47) G 0 rfl dX8_goActs_46 rfl rfl ?_
        refine w_aload_n (pc2 := 48) G 0 rfl dX8_goActs_47 rfl rfl ?_
        refine w_get (pc2 := 51) G foX8_22 0 rfl rfl dX8_goActs_48 rfl ?_
        refine w_iload_n (pc2 := 52) G 1 rfl dX8_goActs_51 rfl rfl ?_
        obtain ⟨v1, H_v1, h⟩ := bs h
        refine w_ialdo (pc2 := 53) G 5 rfl H_v1 dX8_goActs_52 rfl ?_
        refine w_aload_n (pc2 := 54) G 0 rfl dX8_goActs_53 rfl rfl ?_
        refine w_get (pc2 := 57) G foX8_25 0 rfl rfl dX8_goActs_54 rfl ?_
        refine w_iload_n (pc2 := 58) G 1 rfl dX8_goActs_57 rfl rfl ?_
        obtain ⟨v2, H_v2, h⟩ := bs h
        refine w_ialdo (pc2 := 59) G 6 rfl H_v2 dX8_goActs_58 rfl ?_
        refine w_aload_n (pc2 := 60) G 0 rfl dX8_goActs_59 rfl rfl ?_
        refine w_get (pc2 := 63) G foX8_28 0 rfl rfl dX8_goActs_60 rfl ?_
        refine w_iload_n (pc2 := 64) G 1 rfl dX8_goActs_63 rfl rfl ?_
        obtain ⟨v3, H_v3, h⟩ := bs h
        refine w_ialdo (pc2 := 65) G 7 rfl H_v3 dX8_goActs_64 rfl ?_
        refine w_aload_n (pc2 := 66) G 0 rfl dX8_goActs_65 rfl rfl ?_
        refine w_get (pc2 := 69) G foX8_31 0 rfl rfl dX8_goActs_66 rfl ?_
        refine w_iload_n (pc2 := 70) G 1 rfl dX8_goActs_69 rfl rfl ?_
        obtain ⟨v4, H_v4, h⟩ := bs h
        refine w_ialdo (pc2 := 71) G 8 rfl H_v4 dX8_goActs_70 rfl ?_
        obtain ⟨x5, H_x5, h⟩ := bs h
        refine w_cV0 (pc2 := 74) (ws2 := (wX8 E a o c_seed c_is c_sightOne c_sightOther c_sights c_pad c_padMany c_act c_which c_key c_other c_acts c_order c_digest c_tall c_had c_badAct c_badWhy c_alikeAct c_alikeTwo c_work c_isWorked c_trees c_from c_upTo c_shape c_kept c_isKept c_keptAt c_isWriting)) (As := [.int v1, .int v2, .int v3, .int v4]) (rest := []) G koX8_234 (r_X8_whyNot H_x5) (Nat.le_of_ble_eq_true rfl) 8 rfl rfl rfl rfl (Nat.le_of_ble_eq_true rfl) ⟨Nat.zero_le _, Nat.zero_le _⟩ dX8_goActs_71 rfl rfl ?_
        refine w_istore_n (pc2 := 75) (lv2 := [(2, .int x5), (0, .ref (a o)), (1, .int l1)]) G dX8_goActs_74 rfl (Nat.le_of_ble_eq_true rfl) rfl rfl ?_
        refine w_aload_n (pc2 := 76) G 1 rfl dX8_goActs_75 rfl rfl ?_
        refine w_iload_n (pc2 := 77) G 0 rfl dX8_goActs_76 rfl rfl ?_
        obtain ⟨x6, h0, h⟩ := bs h
        have K_x6 : WW g E 3 0 0 (wX8 E a o c_seed c_is c_sightOne c_sightOther c_sights c_pad c_padMany c_act c_which c_key c_other c_acts c_order c_digest c_tall c_had c_badAct c_badWhy c_alikeAct c_alikeTwo c_work c_isWorked c_trees c_from c_upTo c_shape c_kept c_isKept c_keptAt c_isWriting) [(2, .int x5), (0, .ref (a o)), (1, .int l1)] 86 [.int x6, .ref (a o)] := by
          clear h0
          refine w_put (pc2 := 89) (ws2 := (wX8 E a o c_seed c_is c_sightOne c_sightOther c_sights c_pad c_padMany c_act c_which c_key c_other c_acts c_order c_digest c_tall c_had x6 c_badWhy c_alikeAct c_alikeTwo c_work c_isWorked c_trees c_from c_upTo c_shape c_kept c_isKept c_keptAt c_isWriting)) G foX8_228 tokX8 0 rfl rfl rfl rfl (Nat.le_of_ble_eq_true rfl) rfl dX8_goActs_86 rfl ?_
          refine w_aload_n (pc2 := 90) G 1 rfl dX8_goActs_89 rfl rfl ?_
          refine w_iload_n (pc2 := 91) G 0 rfl dX8_goActs_90 rfl rfl ?_
          refine w_if_le (tgt := 98) (pc2 := 94) G dX8_goActs_91 (by decide) rfl (fun cc => ?_) (fun cc => ?_)
          · replace h := (if_pos cc).symm.trans h
            refine w_bipush (pc2 := 100) G dX8_goActs_98 k_bipush_m6 rfl ?_
            refine w_put (pc2 := 103) (ws2 := (wX8 E a o c_seed c_is c_sightOne c_sightOther c_sights c_pad c_padMany c_act c_which c_key c_other c_acts c_order c_digest c_tall c_had x6 (-6 : Int32) c_alikeAct c_alikeTwo c_work c_isWorked c_trees c_from c_upTo c_shape c_kept c_isKept c_keptAt c_isWriting)) G foX8_231 tokX8 0 rfl rfl rfl rfl (Nat.le_of_ble_eq_true rfl) rfl dX8_goActs_100 rfl ?_
            refine w_iload_n (pc2 := 104) G 0 rfl dX8_goActs_103 rfl rfl ?_
            refine w_if_ne (tgt := 112) (pc2 := 107) G dX8_goActs_104 (by decide) rfl (fun cc => ?_) (fun cc => ?_)
            · replace h := (if_neg cc).symm.trans h
              refine w_iinc (pc2 := 115) (lv2 := [(1, .int (l1 + (1 : Int32))), (2, .int x5), (0, .ref (a o))]) G 2 rfl dX8_goActs_112 k_iconst_1 (Nat.le_of_ble_eq_true rfl) rfl rfl ?_
              refine w_goto (tgt := 31) G dX8_goActs_115 (by decide) ?_
              exact w_lv [2, 0] rfl (ih _ _ _ _ _ _ _ _ _ _ _ _ _ _ _ _ h K)
            · replace h := (if_pos cc).symm.trans h
              refine w_aload_n (pc2 := 108) G 1 rfl dX8_goActs_107 rfl rfl ?_
              refine w_iload_n (pc2 := 109) G 2 rfl dX8_goActs_108 rfl rfl ?_
              obtain ⟨x7, H_x7, h⟩ := bs h
              refine w_cV0 (pc2 := 112) (ws2 := (wX8 E a o x7.1 x7.2.1 c_sightOne c_sightOther c_sights c_pad c_padMany c_act c_which c_key c_other c_acts c_order c_digest c_tall c_had x6 (-6 : Int32) x7.2.2.1 x7.2.2.2.1 x7.2.2.2.2.1 c_isWorked x7.2.2.2.2.2 c_from c_upTo c_shape c_kept c_isKept c_keptAt c_isWriting)) (As := [.int l1]) (rest := []) G koX8_238 (r_X8_goOne H_x7) (Nat.le_of_ble_eq_true rfl) 8 rfl rfl rfl rfl (Nat.le_of_ble_eq_true rfl) ⟨Nat.zero_le _, Nat.zero_le _⟩ dX8_goActs_109 rfl rfl ?_
              refine w_iinc (pc2 := 115) (lv2 := [(1, .int (l1 + (1 : Int32))), (2, .int x5), (0, .ref (a o))]) G 2 rfl dX8_goActs_112 k_iconst_1 (Nat.le_of_ble_eq_true rfl) rfl rfl ?_
              refine w_goto (tgt := 31) G dX8_goActs_115 (by decide) ?_
              exact w_lv [2, 0] rfl (ih _ _ _ _ _ _ _ _ _ _ _ _ _ _ _ _ h K)
          · replace h := (if_neg cc).symm.trans h
            refine w_iload_n (pc2 := 95) G 0 rfl dX8_goActs_94 rfl rfl ?_
            refine w_goto (tgt := 100) G dX8_goActs_95 (by decide) ?_
            refine w_put (pc2 := 103) (ws2 := (wX8 E a o c_seed c_is c_sightOne c_sightOther c_sights c_pad c_padMany c_act c_which c_key c_other c_acts c_order c_digest c_tall c_had x6 x5 c_alikeAct c_alikeTwo c_work c_isWorked c_trees c_from c_upTo c_shape c_kept c_isKept c_keptAt c_isWriting)) G foX8_231 tokX8 0 rfl rfl rfl rfl (Nat.le_of_ble_eq_true rfl) rfl dX8_goActs_100 rfl ?_
            refine w_iload_n (pc2 := 104) G 0 rfl dX8_goActs_103 rfl rfl ?_
            refine w_if_ne (tgt := 112) (pc2 := 107) G dX8_goActs_104 (by decide) rfl (fun cc => ?_) (fun cc => ?_)
            · replace h := (if_neg cc).symm.trans h
              refine w_iinc (pc2 := 115) (lv2 := [(1, .int (l1 + (1 : Int32))), (2, .int x5), (0, .ref (a o))]) G 2 rfl dX8_goActs_112 k_iconst_1 (Nat.le_of_ble_eq_true rfl) rfl rfl ?_
              refine w_goto (tgt := 31) G dX8_goActs_115 (by decide) ?_
              exact w_lv [2, 0] rfl (ih _ _ _ _ _ _ _ _ _ _ _ _ _ _ _ _ h K)
            · replace h := (if_pos cc).symm.trans h
              refine w_aload_n (pc2 := 108) G 1 rfl dX8_goActs_107 rfl rfl ?_
              refine w_iload_n (pc2 := 109) G 2 rfl dX8_goActs_108 rfl rfl ?_
              obtain ⟨x8, H_x8, h⟩ := bs h
              refine w_cV0 (pc2 := 112) (ws2 := (wX8 E a o x8.1 x8.2.1 c_sightOne c_sightOther c_sights c_pad c_padMany c_act c_which c_key c_other c_acts c_order c_digest c_tall c_had x6 x5 x8.2.2.1 x8.2.2.2.1 x8.2.2.2.2.1 c_isWorked x8.2.2.2.2.2 c_from c_upTo c_shape c_kept c_isKept c_keptAt c_isWriting)) (As := [.int l1]) (rest := []) G koX8_238 (r_X8_goOne H_x8) (Nat.le_of_ble_eq_true rfl) 8 rfl rfl rfl rfl (Nat.le_of_ble_eq_true rfl) ⟨Nat.zero_le _, Nat.zero_le _⟩ dX8_goActs_109 rfl rfl ?_
              refine w_iinc (pc2 := 115) (lv2 := [(1, .int (l1 + (1 : Int32))), (2, .int x5), (0, .ref (a o))]) G 2 rfl dX8_goActs_112 k_iconst_1 (Nat.le_of_ble_eq_true rfl) rfl rfl ?_
              refine w_goto (tgt := 31) G dX8_goActs_115 (by decide) ?_
              exact w_lv [2, 0] rfl (ih _ _ _ _ _ _ _ _ _ _ _ _ _ _ _ _ h K)
        replace h := h0
        clear h0
        refine w_if_le (tgt := 84) (pc2 := 80) G dX8_goActs_77 (by decide) rfl (fun cc => ?_) (fun cc => ?_)
        · replace h := (if_pos cc).symm.trans h
          refine w_bipush (pc2 := 86) G dX8_goActs_84 k_bipush_m6 rfl ?_
          cases h
          exact w_lv [0, 1, 2] rfl K_x6
        · replace h := (if_neg cc).symm.trans h
          refine w_iload_n (pc2 := 81) G 2 rfl dX8_goActs_80 rfl rfl ?_
          refine w_goto (tgt := 86) G dX8_goActs_81 (by decide) ?_
          cases h
          exact w_lv [0, 1, 2] rfl K_x6
set_option maxHeartbeats 4000000 in
set_option maxRecDepth 100000 in
theorem r_X8_goActs {l : Launch} {E : EV} {a : Nat → Nat} {o : Nat} {c_seed : Int32} {c_is c_sightOne c_sightOther : Nat → Int32} {c_sights : Int32} {c_pad : Nat → Int32} {c_padMany : Int32} {c_act c_which c_key c_other : Nat → Int32} {c_acts : Int32} {c_order : Nat → Int32} {c_digest : Nat → Int64} {c_tall c_had : Nat → Int32} {c_badAct c_badWhy c_alikeAct c_alikeTwo c_work c_isWorked : Int32} {c_trees : Nat → Int64} {c_from c_upTo : Nat → Int32} {c_shape : Nat → Int64} {c_kept c_isKept : Nat → Int32} {c_keptAt c_isWriting : Int32}  {R : Int32 × (Nat → Int32) × Int32 × Int32 × Int32 × Int32 × Int32 × (Nat → Int64)} (h : f_X8_goActs c_seed c_is c_act c_which c_key c_other c_acts c_badAct c_badWhy c_alikeAct c_alikeTwo c_work c_isWorked c_trees = some R) : Ret1 l E yX8_goActs cX8_goActs 3 none 7 (wX8 E a o c_seed c_is c_sightOne c_sightOther c_sights c_pad c_padMany c_act c_which c_key c_other c_acts c_order c_digest c_tall c_had c_badAct c_badWhy c_alikeAct c_alikeTwo c_work c_isWorked c_trees c_from c_upTo c_shape c_kept c_isKept c_keptAt c_isWriting) [.ref (a o)] none (wX8 E a o R.1 R.2.1 c_sightOne c_sightOther c_sights c_pad c_padMany c_act c_which c_key c_other c_acts c_order c_digest c_tall c_had R.2.2.1 R.2.2.2.1 R.2.2.2.2.1 R.2.2.2.2.2.1 R.2.2.2.2.2.2.1 c_isWorked R.2.2.2.2.2.2.2 c_from c_upTo c_shape c_kept c_isKept c_keptAt c_isWriting) := by
  refine Ret.intro (lv := [(0, .ref (a o))]) (by decide) (Nat.le_of_ble_eq_true rfl) rfl ?_
  intro g hgl G hQ
  subst hgl
  rw [f_X8_goActs] at h
  refine w_aload_n (pc2 := 1) G 0 rfl dX8_goActs_0 rfl rfl ?_
  refine w_bipush (pc2 := 3) G dX8_goActs_1 k_bipush_m6 rfl ?_
  refine w_put (pc2 := 6) (ws2 := (wX8 E a o c_seed c_is c_sightOne c_sightOther c_sights c_pad c_padMany c_act c_which c_key c_other c_acts c_order c_digest c_tall c_had (-6 : Int32) c_badWhy c_alikeAct c_alikeTwo c_work c_isWorked c_trees c_from c_upTo c_shape c_kept c_isKept c_keptAt c_isWriting)) G foX8_228 tokX8 0 rfl rfl rfl rfl (Nat.le_of_ble_eq_true rfl) rfl dX8_goActs_3 rfl ?_
  refine w_aload_n (pc2 := 7) G 0 rfl dX8_goActs_6 rfl rfl ?_
  refine w_bipush (pc2 := 9) G dX8_goActs_7 k_bipush_m6 rfl ?_
  refine w_put (pc2 := 12) (ws2 := (wX8 E a o c_seed c_is c_sightOne c_sightOther c_sights c_pad c_padMany c_act c_which c_key c_other c_acts c_order c_digest c_tall c_had (-6 : Int32) (-6 : Int32) c_alikeAct c_alikeTwo c_work c_isWorked c_trees c_from c_upTo c_shape c_kept c_isKept c_keptAt c_isWriting)) G foX8_231 tokX8 0 rfl rfl rfl rfl (Nat.le_of_ble_eq_true rfl) rfl dX8_goActs_9 rfl ?_
  refine w_aload_n (pc2 := 13) G 0 rfl dX8_goActs_12 rfl rfl ?_
  refine w_bipush (pc2 := 15) G dX8_goActs_13 k_bipush_m6 rfl ?_
  refine w_put (pc2 := 18) (ws2 := (wX8 E a o c_seed c_is c_sightOne c_sightOther c_sights c_pad c_padMany c_act c_which c_key c_other c_acts c_order c_digest c_tall c_had (-6 : Int32) (-6 : Int32) (-6 : Int32) c_alikeTwo c_work c_isWorked c_trees c_from c_upTo c_shape c_kept c_isKept c_keptAt c_isWriting)) G foX8_219 tokX8 0 rfl rfl rfl rfl (Nat.le_of_ble_eq_true rfl) rfl dX8_goActs_15 rfl ?_
  refine w_aload_n (pc2 := 19) G 0 rfl dX8_goActs_18 rfl rfl ?_
  refine w_bipush (pc2 := 21) G dX8_goActs_19 k_bipush_m6 rfl ?_
  refine w_put (pc2 := 24) (ws2 := (wX8 E a o c_seed c_is c_sightOne c_sightOther c_sights c_pad c_padMany c_act c_which c_key c_other c_acts c_order c_digest c_tall c_had (-6 : Int32) (-6 : Int32) (-6 : Int32) (-6 : Int32) c_work c_isWorked c_trees c_from c_upTo c_shape c_kept c_isKept c_keptAt c_isWriting)) G foX8_225 tokX8 0 rfl rfl rfl rfl (Nat.le_of_ble_eq_true rfl) rfl dX8_goActs_21 rfl ?_
  refine w_aload_n (pc2 := 25) G 0 rfl dX8_goActs_24 rfl rfl ?_
  refine w_iconst (pc2 := 26) G dX8_goActs_25 k_iconst_0 rfl ?_
  refine w_put (pc2 := 29) (ws2 := (wX8 E a o c_seed c_is c_sightOne c_sightOther c_sights c_pad c_padMany c_act c_which c_key c_other c_acts c_order c_digest c_tall c_had (-6 : Int32) (-6 : Int32) (-6 : Int32) (-6 : Int32) (0 : Int32) c_isWorked c_trees c_from c_upTo c_shape c_kept c_isKept c_keptAt c_isWriting)) G foX8_213 tokX8 0 rfl rfl rfl rfl (Nat.le_of_ble_eq_true rfl) rfl dX8_goActs_26 rfl ?_
  refine w_iconst (pc2 := 30) G dX8_goActs_29 k_iconst_0 rfl ?_
  refine w_istore_n (pc2 := 31) (lv2 := [(1, .int (0 : Int32)), (0, .ref (a o))]) G dX8_goActs_30 rfl (Nat.le_of_ble_eq_true rfl) rfl rfl ?_
  obtain ⟨x1, h0, h⟩ := bs h
  have K_x1 : WW g E 3 0 0 (wX8 E a o x1.1 x1.2.1 c_sightOne c_sightOther c_sights c_pad c_padMany c_act c_which c_key c_other c_acts c_order c_digest c_tall c_had x1.2.2.1 x1.2.2.2.1 x1.2.2.2.2.1 x1.2.2.2.2.2.1 x1.2.2.2.2.2.2.1 c_isWorked x1.2.2.2.2.2.2.2 c_from c_upTo c_shape c_kept c_isKept c_keptAt c_isWriting) [] 118 [] := by
    clear h0
    cases h
    exact w_vret G hQ rfl ⟨rfl, rfl⟩ dX8_goActs_118
  exact w_lv [1, 0] rfl (lp_X8_goActs_31 G 20000 _ _ _ _ _ _ _ _ _ _ _ _ _ _ _ _ h0 (w_lv [] rfl K_x1))

set_option maxHeartbeats 4000000 in
set_option maxRecDepth 100000 in
theorem r_X8_refusal {l : Launch} {E : EV} {a : Nat → Nat} {o : Nat} {c_seed : Int32} {c_is c_sightOne c_sightOther : Nat → Int32} {c_sights : Int32} {c_pad : Nat → Int32} {c_padMany : Int32} {c_act c_which c_key c_other : Nat → Int32} {c_acts : Int32} {c_order : Nat → Int32} {c_digest : Nat → Int64} {c_tall c_had : Nat → Int32} {c_badAct c_badWhy c_alikeAct c_alikeTwo c_work c_isWorked : Int32} {c_trees : Nat → Int64} {c_from c_upTo : Nat → Int32} {c_shape : Nat → Int64} {c_kept c_isKept : Nat → Int32} {c_keptAt c_isWriting : Int32} {l1 : Int32} {R : Int32 × Int32 × (Nat → Int32) × (Nat → Int32) × (Nat → Int32) × (Nat → Int32) × (Nat → Int32) × Int32 × (Nat → Int32) × Int32 × Int32 × Int32 × Int32 × Int32 × Int32 × (Nat → Int64)} (h : f_X8_refusal c_seed c_is c_pad c_padMany c_act c_which c_key c_other c_acts c_had c_badAct c_badWhy c_alikeAct c_alikeTwo c_work c_isWorked c_trees l1 = some R) : Ret1 l E yX8_refusal cX8_refusal 2 (some .int) 8 (wX8 E a o c_seed c_is c_sightOne c_sightOther c_sights c_pad c_padMany c_act c_which c_key c_other c_acts c_order c_digest c_tall c_had c_badAct c_badWhy c_alikeAct c_alikeTwo c_work c_isWorked c_trees c_from c_upTo c_shape c_kept c_isKept c_keptAt c_isWriting) [.ref (a o), .int l1] (some (.int R.1)) (wX8 E a o R.2.1 R.2.2.1 c_sightOne c_sightOther c_sights c_pad c_padMany R.2.2.2.1 R.2.2.2.2.1 R.2.2.2.2.2.1 R.2.2.2.2.2.2.1 R.2.2.2.2.2.2.2.1 c_order c_digest c_tall R.2.2.2.2.2.2.2.2.1 R.2.2.2.2.2.2.2.2.2.1 R.2.2.2.2.2.2.2.2.2.2.1 R.2.2.2.2.2.2.2.2.2.2.2.1 R.2.2.2.2.2.2.2.2.2.2.2.2.1 R.2.2.2.2.2.2.2.2.2.2.2.2.2.1 R.2.2.2.2.2.2.2.2.2.2.2.2.2.2.1 R.2.2.2.2.2.2.2.2.2.2.2.2.2.2.2 c_from c_upTo c_shape c_kept c_isKept c_keptAt c_isWriting) := by
  refine Ret.intro (lv := [(0, .ref (a o)), (1, .int l1)]) (by decide) (Nat.le_of_ble_eq_true rfl) rfl ?_
  intro g hgl G hQ
  subst hgl
  rw [f_X8_refusal] at h
  refine w_aload_n (pc2 := 1) G 0 rfl dX8_refusal_0 rfl rfl ?_
  obtain ⟨x1, H_x1, h⟩ := bs h
  refine w_cV0 (pc2 := 4) (ws2 := (wX8 E a o c_seed c_is c_sightOne c_sightOther c_sights c_pad c_padMany c_act c_which c_key c_other c_acts c_order c_digest c_tall x1 c_badAct c_badWhy c_alikeAct c_alikeTwo c_work c_isWorked c_trees c_from c_upTo c_shape c_kept c_isKept c_keptAt c_isWriting)) (As := []) (rest := []) G koX8_242 (r_X8_keepNow H_x1) (Nat.le_of_ble_eq_true rfl) 8 rfl rfl rfl rfl (Nat.le_of_ble_eq_true rfl) ⟨Nat.zero_le _, Nat.zero_le _⟩ dX8_refusal_1 rfl rfl ?_
  refine w_aload_n (pc2 := 5) G 0 rfl dX8_refusal_4 rfl rfl ?_
  refine w_iload_n (pc2 := 6) G 1 rfl dX8_refusal_5 rfl rfl ?_
  obtain ⟨v2, H_v2, h⟩ := bs h
  refine w_put (pc2 := 9) (ws2 := (wX8 E a o c_seed c_is c_sightOne c_sightOther c_sights c_pad c_padMany c_act c_which c_key c_other c_acts c_order c_digest c_tall x1 c_badAct c_badWhy c_alikeAct c_alikeTwo c_work l1 c_trees c_from c_upTo c_shape c_kept c_isKept c_keptAt c_isWriting)) G foX8_203 tokX8 0 rfl rfl (nar_z (bz_some H_v2)) (fit_z (bz_some H_v2)) (Nat.le_of_ble_eq_true rfl) rfl dX8_refusal_6 rfl ?_
  refine w_aload_n (pc2 := 10) G 0 rfl dX8_refusal_9 rfl rfl ?_
  obtain ⟨x3, H_x3, h⟩ := bs h
  refine w_cV0 (pc2 := 13) (ws2 := (wX8 E a o c_seed c_is c_sightOne c_sightOther c_sights c_pad c_padMany x3.2.1 x3.2.2.1 x3.2.2.2.1 x3.2.2.2.2.1 x3.2.2.2.2.2 c_order c_digest c_tall x1 c_badAct c_badWhy c_alikeAct c_alikeTwo c_work l1 c_trees c_from c_upTo c_shape c_kept c_isKept c_keptAt c_isWriting)) (As := []) (rest := []) G koX8_245 (r_X8_fault H_x3) (Nat.le_of_ble_eq_true rfl) 8 rfl rfl rfl rfl (Nat.le_of_ble_eq_true rfl) ⟨Nat.zero_le _, Nat.zero_le _⟩ dX8_refusal_10 rfl rfl ?_
  refine w_if_lt (tgt := 19) (pc2 := 16) G dX8_refusal_13 (by decide) rfl (fun cc => ?_) (fun cc => ?_)
  · replace h := (if_pos cc).symm.trans h
    refine w_aload_n (pc2 := 20) G 0 rfl dX8_refusal_19 rfl rfl ?_
    obtain ⟨x4, H_x4, h⟩ := bs h
    refine w_cV0 (pc2 := 23) (ws2 := (wX8 E a o x4.1 x4.2.1 c_sightOne c_sightOther c_sights c_pad c_padMany x3.2.1 x3.2.2.1 x3.2.2.2.1 x3.2.2.2.2.1 x3.2.2.2.2.2 c_order c_digest c_tall x1 x4.2.2.1 x4.2.2.2.1 x4.2.2.2.2.1 x4.2.2.2.2.2.1 x4.2.2.2.2.2.2.1 l1 x4.2.2.2.2.2.2.2 c_from c_upTo c_shape c_kept c_isKept c_keptAt c_isWriting)) (As := []) (rest := []) G koX8_248 (r_X8_goActs H_x4) (Nat.le_of_ble_eq_true rfl) 8 rfl rfl rfl rfl (Nat.le_of_ble_eq_true rfl) ⟨Nat.zero_le _, Nat.zero_le _⟩ dX8_refusal_20 rfl rfl ?_
    refine w_aload_n (pc2 := 24) G 0 rfl dX8_refusal_23 rfl rfl ?_
    refine w_get (pc2 := 27) G foX8_228 0 rfl rfl dX8_refusal_24 rfl ?_
    refine w_if_lt (tgt := 35) (pc2 := 30) G dX8_refusal_27 (by decide) rfl (fun cc => ?_) (fun cc => ?_)
    · replace h := (if_pos cc).symm.trans h
      refine w_bipush (pc2 := 37) G dX8_refusal_35 k_bipush_m6 rfl ?_
      cases h
      exact w_iret G hQ rfl ⟨rfl, rfl⟩ dX8_refusal_37
    · replace h := (if_neg cc).symm.trans h
      refine w_bipush (pc2 := 32) G dX8_refusal_30 k_bipush_m3 rfl ?_
      refine w_goto (tgt := 37) G dX8_refusal_32 (by decide) ?_
      cases h
      exact w_iret G hQ rfl ⟨rfl, rfl⟩ dX8_refusal_37
  · replace h := (if_neg cc).symm.trans h
    refine w_bipush (pc2 := 18) G dX8_refusal_16 k_bipush_m5 rfl ?_
    cases h
    exact w_iret G hQ rfl ⟨rfl, rfl⟩ dX8_refusal_18

set_option maxHeartbeats 4000000 in
set_option maxRecDepth 100000 in
theorem r_X8_judge {l : Launch} {E : EV} {a : Nat → Nat} {o : Nat} {c_seed : Int32} {c_is c_sightOne c_sightOther : Nat → Int32} {c_sights : Int32} {c_pad : Nat → Int32} {c_padMany : Int32} {c_act c_which c_key c_other : Nat → Int32} {c_acts : Int32} {c_order : Nat → Int32} {c_digest : Nat → Int64} {c_tall c_had : Nat → Int32} {c_badAct c_badWhy c_alikeAct c_alikeTwo c_work c_isWorked : Int32} {c_trees : Nat → Int64} {c_from c_upTo : Nat → Int32} {c_shape : Nat → Int64} {c_kept c_isKept : Nat → Int32} {c_keptAt c_isWriting : Int32} {l1 : Int32} {R : Int32 × Int32 × (Nat → Int32) × (Nat → Int32) × (Nat → Int32) × (Nat → Int32) × (Nat → Int32) × Int32 × (Nat → Int32) × Int32 × Int32 × Int32 × Int32 × Int32 × Int32 × (Nat → Int64)} (h : f_X8_judge c_seed c_is c_pad c_padMany c_act c_which c_key c_other c_acts c_had c_badAct c_badWhy c_alikeAct c_alikeTwo c_work c_isWorked c_trees l1 = some R) : Ret1 l E yX8_judge cX8_judge 3 (some .int) 9 (wX8 E a o c_seed c_is c_sightOne c_sightOther c_sights c_pad c_padMany c_act c_which c_key c_other c_acts c_order c_digest c_tall c_had c_badAct c_badWhy c_alikeAct c_alikeTwo c_work c_isWorked c_trees c_from c_upTo c_shape c_kept c_isKept c_keptAt c_isWriting) [.ref (a o), .int l1] (some (.int R.1)) (wX8 E a o R.2.1 R.2.2.1 c_sightOne c_sightOther c_sights c_pad c_padMany R.2.2.2.1 R.2.2.2.2.1 R.2.2.2.2.2.1 R.2.2.2.2.2.2.1 R.2.2.2.2.2.2.2.1 c_order c_digest c_tall R.2.2.2.2.2.2.2.2.1 R.2.2.2.2.2.2.2.2.2.1 R.2.2.2.2.2.2.2.2.2.2.1 R.2.2.2.2.2.2.2.2.2.2.2.1 R.2.2.2.2.2.2.2.2.2.2.2.2.1 R.2.2.2.2.2.2.2.2.2.2.2.2.2.1 R.2.2.2.2.2.2.2.2.2.2.2.2.2.2.1 R.2.2.2.2.2.2.2.2.2.2.2.2.2.2.2 c_from c_upTo c_shape c_kept c_isKept c_keptAt c_isWriting) := by
  refine Ret.intro (lv := [(0, .ref (a o)), (1, .int l1)]) (by decide) (Nat.le_of_ble_eq_true rfl) rfl ?_
  intro g hgl G hQ
  subst hgl
  rw [f_X8_judge] at h
  refine w_iload_n (pc2 := 1) G 1 rfl dX8_judge_0 rfl rfl ?_
  refine w_i2l (pc2 := 2) G dX8_judge_1 rfl ?_
  refine w_lconst (pc2 := 3) G dX8_judge_2 k_lconst_0 rfl ?_
  refine w_ldc2 (pc2 := 6) G wd_310 dX8_judge_3 rfl ?_
  obtain ⟨x1, H_x1, h⟩ := bs h
  refine w_cS0 (pc2 := 9) (As := [.long l1.toInt64, .long (0 : Int64), .long (2 : Int64)]) (rest := []) G koX8_68 (r_X8_in H_x1) (Nat.le_of_ble_eq_true rfl) rfl rfl (Nat.le_of_ble_eq_true rfl) ⟨Nat.zero_le _, Nat.zero_le _⟩ dX8_judge_6 rfl rfl ?_
  refine w_if_ne (tgt := 15) (pc2 := 12) G dX8_judge_9 (by decide) rfl (fun cc => ?_) (fun cc => ?_)
  · replace h := (if_neg cc).symm.trans h
    refine w_aload_n (pc2 := 16) G 0 rfl dX8_judge_15 rfl rfl ?_
    refine w_aload_n (pc2 := 17) G 0 rfl dX8_judge_16 rfl rfl ?_
    refine w_iload_n (pc2 := 18) G 1 rfl dX8_judge_17 rfl rfl ?_
    refine w_iconst (pc2 := 19) G dX8_judge_18 k_iconst_2 rfl ?_
    obtain ⟨x2, h0, h⟩ := bs h
    have K_x2 : WW g E 3 0 0 (wX8 E a o c_seed c_is c_sightOne c_sightOther c_sights c_pad c_padMany c_act c_which c_key c_other c_acts c_order c_digest c_tall c_had c_badAct c_badWhy c_alikeAct c_alikeTwo c_work c_isWorked c_trees c_from c_upTo c_shape c_kept c_isKept c_keptAt c_isWriting) [(0, .ref (a o)), (1, .int l1)] 27 [.int x2, .ref (a o), .ref (a o)] := by
      clear h0
      obtain ⟨x3, H_x3, h⟩ := bs h
      refine w_cV0 (pc2 := 30) (ws2 := (wX8 E a o x3.2.1 x3.2.2.1 c_sightOne c_sightOther c_sights c_pad c_padMany x3.2.2.2.1 x3.2.2.2.2.1 x3.2.2.2.2.2.1 x3.2.2.2.2.2.2.1 x3.2.2.2.2.2.2.2.1 c_order c_digest c_tall x3.2.2.2.2.2.2.2.2.1 x3.2.2.2.2.2.2.2.2.2.1 x3.2.2.2.2.2.2.2.2.2.2.1 x3.2.2.2.2.2.2.2.2.2.2.2.1 x3.2.2.2.2.2.2.2.2.2.2.2.2.1 x3.2.2.2.2.2.2.2.2.2.2.2.2.2.1 x3.2.2.2.2.2.2.2.2.2.2.2.2.2.2.1 x3.2.2.2.2.2.2.2.2.2.2.2.2.2.2.2 c_from c_upTo c_shape c_kept c_isKept c_keptAt c_isWriting)) (As := [.int x2]) (rest := [.ref (a o)]) G koX8_253 (r_X8_refusal H_x3) (Nat.le_of_ble_eq_true rfl) 8 rfl rfl rfl rfl (Nat.le_of_ble_eq_true rfl) ⟨Nat.zero_le _, Nat.zero_le _⟩ dX8_judge_27 rfl rfl ?_
      obtain ⟨x4, H_x4, h⟩ := bs h
      refine w_cV0 (pc2 := 33) (ws2 := (wX8 E a o x4.2.1 x4.2.2 c_sightOne c_sightOther c_sights c_pad c_padMany x3.2.2.2.1 x3.2.2.2.2.1 x3.2.2.2.2.2.1 x3.2.2.2.2.2.2.1 x3.2.2.2.2.2.2.2.1 c_order c_digest c_tall x3.2.2.2.2.2.2.2.2.1 x3.2.2.2.2.2.2.2.2.2.1 x3.2.2.2.2.2.2.2.2.2.2.1 x3.2.2.2.2.2.2.2.2.2.2.2.1 x3.2.2.2.2.2.2.2.2.2.2.2.2.1 x3.2.2.2.2.2.2.2.2.2.2.2.2.2.1 x3.2.2.2.2.2.2.2.2.2.2.2.2.2.2.1 x3.2.2.2.2.2.2.2.2.2.2.2.2.2.2.2 c_from c_upTo c_shape c_kept c_isKept c_keptAt c_isWriting)) (As := [.int x3.1]) (rest := []) G koX8_257 (r_X8_back H_x4) (Nat.le_of_ble_eq_true rfl) 8 rfl rfl rfl rfl (Nat.le_of_ble_eq_true rfl) ⟨Nat.zero_le _, Nat.zero_le _⟩ dX8_judge_30 rfl rfl ?_
      refine w_istore_n (pc2 := 34) (lv2 := [(2, .int x4.1), (0, .ref (a o)), (1, .int l1)]) G dX8_judge_33 rfl (Nat.le_of_ble_eq_true rfl) rfl rfl ?_
      refine w_iload_n (pc2 := 35) G 0 rfl dX8_judge_34 rfl rfl ?_
      refine w_bipush (pc2 := 37) G dX8_judge_35 k_bipush_m5 rfl ?_
      refine w_icmp_eq (tgt := 51) (pc2 := 40) G dX8_judge_37 (by decide) rfl (fun cc => ?_) (fun cc => ?_)
      · replace h := (if_pos cc).symm.trans h
        refine w_iload_n (pc2 := 52) G 0 rfl dX8_judge_51 rfl rfl ?_
        cases h
        exact w_iret G hQ rfl ⟨rfl, rfl⟩ dX8_judge_52
      · replace h := (if_neg cc).symm.trans h
        refine w_iload_n (pc2 := 41) G 2 rfl dX8_judge_40 rfl rfl ?_
        refine w_iconst (pc2 := 42) G dX8_judge_41 k_iconst_1 rfl ?_
        refine w_icmp_le (tgt := 53) (pc2 := 45) G dX8_judge_42 (by decide) rfl (fun cc => ?_) (fun cc => ?_)
        · replace h := (if_pos cc).symm.trans h
          refine w_iload_n (pc2 := 54) G 2 rfl dX8_judge_53 rfl rfl ?_
          refine w_if_ne (tgt := 64) (pc2 := 57) G dX8_judge_54 (by decide) rfl (fun cc => ?_) (fun cc => ?_)
          · replace h := (if_neg cc).symm.trans h
            refine w_iload_n (pc2 := 65) G 2 rfl dX8_judge_64 rfl rfl ?_
            refine w_iconst (pc2 := 66) G dX8_judge_65 k_iconst_1 rfl ?_
            refine w_icmp_ne (tgt := 76) (pc2 := 69) G dX8_judge_66 (by decide) rfl (fun cc => ?_) (fun cc => ?_)
            · replace h := (if_neg cc).symm.trans h
              refine w_aload_n (pc2 := 77) G 1 rfl dX8_judge_76 rfl rfl ?_
              refine w_get (pc2 := 80) G foX8_213 0 rfl rfl dX8_judge_77 rfl ?_
              cases h
              exact w_iret G hQ rfl ⟨rfl, rfl⟩ dX8_judge_80
            · replace h := (if_pos cc).symm.trans h
              refine w_aload_n (pc2 := 70) G 1 rfl dX8_judge_69 rfl rfl ?_
              refine w_get (pc2 := 73) G foX8_231 0 rfl rfl dX8_judge_70 rfl ?_
              refine w_goto (tgt := 80) G dX8_judge_73 (by decide) ?_
              cases h
              exact w_iret G hQ rfl ⟨rfl, rfl⟩ dX8_judge_80
          · replace h := (if_pos cc).symm.trans h
            refine w_aload_n (pc2 := 58) G 1 rfl dX8_judge_57 rfl rfl ?_
            refine w_get (pc2 := 61) G foX8_228 0 rfl rfl dX8_judge_58 rfl ?_
            refine w_goto (tgt := 80) G dX8_judge_61 (by decide) ?_
            cases h
            exact w_iret G hQ rfl ⟨rfl, rfl⟩ dX8_judge_80
        · replace h := (if_neg cc).symm.trans h
          refine w_iload_n (pc2 := 46) G 0 rfl dX8_judge_45 rfl rfl ?_
          refine w_bipush (pc2 := 48) G dX8_judge_46 k_bipush_m3 rfl ?_
          refine w_icmp_ne (tgt := 53) (pc2 := 51) G dX8_judge_48 (by decide) rfl (fun cc => ?_) (fun cc => ?_)
          · replace h := (if_neg cc).symm.trans h
            refine w_iload_n (pc2 := 54) G 2 rfl dX8_judge_53 rfl rfl ?_
            refine w_if_ne (tgt := 64) (pc2 := 57) G dX8_judge_54 (by decide) rfl (fun cc => ?_) (fun cc => ?_)
            · replace h := (if_neg cc).symm.trans h
              refine w_iload_n (pc2 := 65) G 2 rfl dX8_judge_64 rfl rfl ?_
              refine w_iconst (pc2 := 66) G dX8_judge_65 k_iconst_1 rfl ?_
              refine w_icmp_ne (tgt := 76) (pc2 := 69) G dX8_judge_66 (by decide) rfl (fun cc => ?_) (fun cc => ?_)
              · replace h := (if_neg cc).symm.trans h
                refine w_aload_n (pc2 := 77) G 1 rfl dX8_judge_76 rfl rfl ?_
                refine w_get (pc2 := 80) G foX8_213 0 rfl rfl dX8_judge_77 rfl ?_
                cases h
                exact w_iret G hQ rfl ⟨rfl, rfl⟩ dX8_judge_80
              · replace h := (if_pos cc).symm.trans h
                refine w_aload_n (pc2 := 70) G 1 rfl dX8_judge_69 rfl rfl ?_
                refine w_get (pc2 := 73) G foX8_231 0 rfl rfl dX8_judge_70 rfl ?_
                refine w_goto (tgt := 80) G dX8_judge_73 (by decide) ?_
                cases h
                exact w_iret G hQ rfl ⟨rfl, rfl⟩ dX8_judge_80
            · replace h := (if_pos cc).symm.trans h
              refine w_aload_n (pc2 := 58) G 1 rfl dX8_judge_57 rfl rfl ?_
              refine w_get (pc2 := 61) G foX8_228 0 rfl rfl dX8_judge_58 rfl ?_
              refine w_goto (tgt := 80) G dX8_judge_61 (by decide) ?_
              cases h
              exact w_iret G hQ rfl ⟨rfl, rfl⟩ dX8_judge_80
          · replace h := (if_pos cc).symm.trans h
            refine w_iload_n (pc2 := 52) G 0 rfl dX8_judge_51 rfl rfl ?_
            cases h
            exact w_iret G hQ rfl ⟨rfl, rfl⟩ dX8_judge_52
    replace h := h0
    clear h0
    refine w_icmp_ne (tgt := 26) (pc2 := 22) G dX8_judge_19 (by decide) rfl (fun cc => ?_) (fun cc => ?_)
    · replace h := (if_neg cc).symm.trans h
      refine w_iconst (pc2 := 27) G dX8_judge_26 k_iconst_0 rfl ?_
      cases h
      exact w_lv [0, 1] rfl K_x2
    · replace h := (if_pos cc).symm.trans h
      refine w_iconst (pc2 := 23) G dX8_judge_22 k_iconst_1 rfl ?_
      refine w_goto (tgt := 27) G dX8_judge_23 (by decide) ?_
      cases h
      exact w_lv [0, 1] rfl K_x2
  · replace h := (if_pos cc).symm.trans h
    refine w_bipush (pc2 := 14) G dX8_judge_12 k_bipush_m2 rfl ?_
    cases h
    exact w_iret G hQ rfl ⟨rfl, rfl⟩ dX8_judge_14

set_option maxHeartbeats 4000000 in
set_option maxRecDepth 100000 in
theorem r_X8_ofSet {l : Launch} {E : EV} {a : Nat → Nat} {o : Nat} {c_seed : Int32} {c_is c_sightOne c_sightOther : Nat → Int32} {c_sights : Int32} {c_pad : Nat → Int32} {c_padMany : Int32} {c_act c_which c_key c_other : Nat → Int32} {c_acts : Int32} {c_order : Nat → Int32} {c_digest : Nat → Int64} {c_tall c_had : Nat → Int32} {c_badAct c_badWhy c_alikeAct c_alikeTwo c_work c_isWorked : Int32} {c_trees : Nat → Int64} {c_from c_upTo : Nat → Int32} {c_shape : Nat → Int64} {c_kept c_isKept : Nat → Int32} {c_keptAt c_isWriting : Int32} {l1 : Int32} {l2 : Int32} {R : Int32 × (Nat → Int32) × (Nat → Int64) × (Nat → Int32)} (h : f_X8_ofSet c_seed c_is c_order c_digest c_tall l1 l2 = some R) : Ret1 l E yX8_ofSet cX8_ofSet 5 (some .int) 6 (wX8 E a o c_seed c_is c_sightOne c_sightOther c_sights c_pad c_padMany c_act c_which c_key c_other c_acts c_order c_digest c_tall c_had c_badAct c_badWhy c_alikeAct c_alikeTwo c_work c_isWorked c_trees c_from c_upTo c_shape c_kept c_isKept c_keptAt c_isWriting) [.ref (a o), .int l1, .int l2] (some (.int R.1)) (wX8 E a o c_seed c_is c_sightOne c_sightOther c_sights c_pad c_padMany c_act c_which c_key c_other c_acts R.2.1 R.2.2.1 R.2.2.2 c_had c_badAct c_badWhy c_alikeAct c_alikeTwo c_work c_isWorked c_trees c_from c_upTo c_shape c_kept c_isKept c_keptAt c_isWriting) := by
  refine Ret.intro (lv := [(0, .ref (a o)), (1, .int l1), (2, .int l2)]) (by decide) (Nat.le_of_ble_eq_true rfl) rfl ?_
  intro g hgl G hQ
  subst hgl
  rw [f_X8_ofSet] at h
  refine w_aload_n (pc2 := 1) G 0 rfl dX8_ofSet_0 rfl rfl ?_
  refine w_iload_n (pc2 := 2) G 1 rfl dX8_ofSet_1 rfl rfl ?_
  refine w_iconst (pc2 := 3) G dX8_ofSet_2 k_iconst_0 rfl ?_
  refine w_bipush (pc2 := 5) G dX8_ofSet_3 k_bipush_49 rfl ?_
  obtain ⟨x1, H_x1, h⟩ := bs h
  refine w_cV0 (pc2 := 8) (ws2 := (wX8 E a o c_seed c_is c_sightOne c_sightOther c_sights c_pad c_padMany c_act c_which c_key c_other c_acts x1.2.1 x1.2.2.1 x1.2.2.2 c_had c_badAct c_badWhy c_alikeAct c_alikeTwo c_work c_isWorked c_trees c_from c_upTo c_shape c_kept c_isKept c_keptAt c_isWriting)) (As := [.int l1, .int (0 : Int32), .int (49 : Int32)]) (rest := []) G koX8_260 (r_X8_digestOf H_x1) (Nat.le_of_ble_eq_true rfl) 8 rfl rfl rfl rfl (Nat.le_of_ble_eq_true rfl) ⟨Nat.zero_le _, Nat.zero_le _⟩ dX8_ofSet_5 rfl rfl ?_
  refine w_istore_n (pc2 := 9) (lv2 := [(3, .int x1.1), (0, .ref (a o)), (1, .int l1), (2, .int l2)]) G dX8_ofSet_8 rfl (Nat.le_of_ble_eq_true rfl) rfl rfl ?_
  refine w_aload_n (pc2 := 10) G 1 rfl dX8_ofSet_9 rfl rfl ?_
  refine w_iload_n (pc2 := 11) G 2 rfl dX8_ofSet_10 rfl rfl ?_
  refine w_iconst (pc2 := 12) G dX8_ofSet_11 k_iconst_0 rfl ?_
  refine w_bipush (pc2 := 14) G dX8_ofSet_12 k_bipush_49 rfl ?_
  obtain ⟨x2, H_x2, h⟩ := bs h
  refine w_cV0 (pc2 := 17) (ws2 := (wX8 E a o c_seed c_is c_sightOne c_sightOther c_sights c_pad c_padMany c_act c_which c_key c_other c_acts x1.2.1 x1.2.2.1 x1.2.2.2 c_had c_badAct c_badWhy c_alikeAct c_alikeTwo c_work c_isWorked c_trees c_from c_upTo c_shape c_kept c_isKept c_keptAt c_isWriting)) (As := [.int l1, .int (0 : Int32), .int (49 : Int32)]) (rest := []) G koX8_177 (r_X8_rootOf H_x2) (Nat.le_of_ble_eq_true rfl) 8 rfl rfl rfl rfl (Nat.le_of_ble_eq_true rfl) ⟨Nat.zero_le _, Nat.zero_le _⟩ dX8_ofSet_14 rfl rfl ?_
  refine w_istore (pc2 := 19) (lv2 := [(4, .int x2), (3, .int x1.1), (0, .ref (a o)), (1, .int l1), (2, .int l2)]) G dX8_ofSet_17 (Nat.le_of_ble_eq_true rfl) rfl rfl ?_
  refine w_iload_n (pc2 := 20) G 4 rfl dX8_ofSet_19 rfl rfl ?_
  refine w_if_ne (tgt := 31) (pc2 := 23) G dX8_ofSet_20 (by decide) rfl (fun cc => ?_) (fun cc => ?_)
  · replace h := (if_neg cc).symm.trans h
    refine w_iload_n (pc2 := 32) G 4 rfl dX8_ofSet_31 rfl rfl ?_
    refine w_iconst (pc2 := 33) G dX8_ofSet_32 k_iconst_1 rfl ?_
    refine w_icmp_ne (tgt := 40) (pc2 := 36) G dX8_ofSet_33 (by decide) rfl (fun cc => ?_) (fun cc => ?_)
    · replace h := (if_neg cc).symm.trans h
      refine w_iload_n (pc2 := 41) G 4 rfl dX8_ofSet_40 rfl rfl ?_
      refine w_iconst (pc2 := 42) G dX8_ofSet_41 k_iconst_2 rfl ?_
      refine w_icmp_ne (tgt := 50) (pc2 := 45) G dX8_ofSet_42 (by decide) rfl (fun cc => ?_) (fun cc => ?_)
      · replace h := (if_neg cc).symm.trans h
        refine w_iload (pc2 := 52) G 0 rfl dX8_ofSet_50 rfl ?_
        refine w_if_ge (tgt := 59) (pc2 := 55) G dX8_ofSet_52 (by decide) rfl (fun cc => ?_) (fun cc => ?_)
        · replace h := (if_pos cc).symm.trans h
          refine w_aload_n (pc2 := 60) G 2 rfl dX8_ofSet_59 rfl rfl ?_
          refine w_get (pc2 := 63) G foX8_41 0 rfl rfl dX8_ofSet_60 rfl ?_
          refine w_iload (pc2 := 65) G 0 rfl dX8_ofSet_63 rfl ?_
          obtain ⟨v3, H_v3, h⟩ := bs h
          refine w_ialdo (pc2 := 66) G 11 rfl H_v3 dX8_ofSet_65 rfl ?_
          cases h
          exact w_iret G hQ rfl ⟨rfl, rfl⟩ dX8_ofSet_66
        · replace h := (if_neg cc).symm.trans h
          refine w_iconst (pc2 := 56) G dX8_ofSet_55 k_iconst_0 rfl ?_
          refine w_goto (tgt := 66) G dX8_ofSet_56 (by decide) ?_
          cases h
          exact w_iret G hQ rfl ⟨rfl, rfl⟩ dX8_ofSet_66
      · replace h := (if_pos cc).symm.trans h
        refine w_iload (pc2 := 47) G 0 rfl dX8_ofSet_45 rfl ?_
        refine w_goto (tgt := 66) G dX8_ofSet_47 (by decide) ?_
        cases h
        exact w_iret G hQ rfl ⟨rfl, rfl⟩ dX8_ofSet_66
    · replace h := (if_pos cc).symm.trans h
      refine w_iload_n (pc2 := 37) G 1 rfl dX8_ofSet_36 rfl rfl ?_
      refine w_goto (tgt := 66) G dX8_ofSet_37 (by decide) ?_
      cases h
      exact w_iret G hQ rfl ⟨rfl, rfl⟩ dX8_ofSet_66
  · replace h := (if_pos cc).symm.trans h
    refine w_aload_n (pc2 := 24) G 2 rfl dX8_ofSet_23 rfl rfl ?_
    refine w_iload_n (pc2 := 25) G 3 rfl dX8_ofSet_24 rfl rfl ?_
    obtain ⟨x4, H_x4, h⟩ := bs h
    refine w_cV0 (pc2 := 28) (ws2 := (wX8 E a o c_seed c_is c_sightOne c_sightOther c_sights c_pad c_padMany c_act c_which c_key c_other c_acts x1.2.1 x1.2.2.1 x1.2.2.2 c_had c_badAct c_badWhy c_alikeAct c_alikeTwo c_work c_isWorked c_trees c_from c_upTo c_shape c_kept c_isKept c_keptAt c_isWriting)) (As := [.int l1]) (rest := []) G koX8_99 (r_X8_many H_x4) (Nat.le_of_ble_eq_true rfl) 8 rfl rfl rfl rfl (Nat.le_of_ble_eq_true rfl) ⟨Nat.zero_le _, Nat.zero_le _⟩ dX8_ofSet_25 rfl rfl ?_
    refine w_goto (tgt := 66) G dX8_ofSet_28 (by decide) ?_
    cases h
    exact w_iret G hQ rfl ⟨rfl, rfl⟩ dX8_ofSet_66

set_option maxHeartbeats 4000000 in
set_option maxRecDepth 100000 in
theorem r_X8_behind {l : Launch} {E : EV} {a : Nat → Nat} {o : Nat} {c_seed : Int32} {c_is c_sightOne c_sightOther : Nat → Int32} {c_sights : Int32} {c_pad : Nat → Int32} {c_padMany : Int32} {c_act c_which c_key c_other : Nat → Int32} {c_acts : Int32} {c_order : Nat → Int32} {c_digest : Nat → Int64} {c_tall c_had : Nat → Int32} {c_badAct c_badWhy c_alikeAct c_alikeTwo c_work c_isWorked : Int32} {c_trees : Nat → Int64} {c_from c_upTo : Nat → Int32} {c_shape : Nat → Int64} {c_kept c_isKept : Nat → Int32} {c_keptAt c_isWriting : Int32} {l1 : Int32} {l2 : Int32} {R : Int32 × Int32 × (Nat → Int32) × (Nat → Int32) × (Nat → Int32) × (Nat → Int32) × (Nat → Int32) × Int32 × (Nat → Int32) × (Nat → Int64) × (Nat → Int32) × (Nat → Int32) × Int32 × Int32 × Int32 × Int32 × Int32 × Int32 × (Nat → Int64)} (h : f_X8_behind c_seed c_is c_pad c_padMany c_act c_which c_key c_other c_acts c_order c_digest c_tall c_had c_badAct c_badWhy c_alikeAct c_alikeTwo c_work c_isWorked c_trees l1 l2 = some R) : Ret1 l E yX8_behind cX8_behind 4 (some .int) 9 (wX8 E a o c_seed c_is c_sightOne c_sightOther c_sights c_pad c_padMany c_act c_which c_key c_other c_acts c_order c_digest c_tall c_had c_badAct c_badWhy c_alikeAct c_alikeTwo c_work c_isWorked c_trees c_from c_upTo c_shape c_kept c_isKept c_keptAt c_isWriting) [.ref (a o), .int l1, .int l2] (some (.int R.1)) (wX8 E a o R.2.1 R.2.2.1 c_sightOne c_sightOther c_sights c_pad c_padMany R.2.2.2.1 R.2.2.2.2.1 R.2.2.2.2.2.1 R.2.2.2.2.2.2.1 R.2.2.2.2.2.2.2.1 R.2.2.2.2.2.2.2.2.1 R.2.2.2.2.2.2.2.2.2.1 R.2.2.2.2.2.2.2.2.2.2.1 R.2.2.2.2.2.2.2.2.2.2.2.1 R.2.2.2.2.2.2.2.2.2.2.2.2.1 R.2.2.2.2.2.2.2.2.2.2.2.2.2.1 R.2.2.2.2.2.2.2.2.2.2.2.2.2.2.1 R.2.2.2.2.2.2.2.2.2.2.2.2.2.2.2.1 R.2.2.2.2.2.2.2.2.2.2.2.2.2.2.2.2.1 R.2.2.2.2.2.2.2.2.2.2.2.2.2.2.2.2.2.1 R.2.2.2.2.2.2.2.2.2.2.2.2.2.2.2.2.2.2 c_from c_upTo c_shape c_kept c_isKept c_keptAt c_isWriting) := by
  refine Ret.intro (lv := [(0, .ref (a o)), (1, .int l1), (2, .int l2)]) (by decide) (Nat.le_of_ble_eq_true rfl) rfl ?_
  intro g hgl G hQ
  subst hgl
  rw [f_X8_behind] at h
  refine w_iload_n (pc2 := 1) G 1 rfl dX8_behind_0 rfl rfl ?_
  obtain ⟨x1, H_x1, h⟩ := bs h
  refine w_cS0 (pc2 := 4) (As := [.int l1]) (rest := []) G koX8_88 (r_X8_isSet H_x1) (Nat.le_of_ble_eq_true rfl) rfl rfl (Nat.le_of_ble_eq_true rfl) ⟨Nat.zero_le _, Nat.zero_le _⟩ dX8_behind_1 rfl rfl ?_
  refine w_if_ne (tgt := 9) (pc2 := 7) G dX8_behind_4 (by decide) rfl (fun cc => ?_) (fun cc => ?_)
  · replace h := (if_neg cc).symm.trans h
    refine w_iload_n (pc2 := 10) G 2 rfl dX8_behind_9 rfl rfl ?_
    refine w_i2l (pc2 := 11) G dX8_behind_10 rfl ?_
    refine w_lconst (pc2 := 12) G dX8_behind_11 k_lconst_0 rfl ?_
    refine w_ldc2 (pc2 := 15) G wd_185 dX8_behind_12 rfl ?_
    obtain ⟨x2, H_x2, h⟩ := bs h
    refine w_cS0 (pc2 := 18) (As := [.long l2.toInt64, .long (0 : Int64), .long (3 : Int64)]) (rest := []) G koX8_68 (r_X8_in H_x2) (Nat.le_of_ble_eq_true rfl) rfl rfl (Nat.le_of_ble_eq_true rfl) ⟨Nat.zero_le _, Nat.zero_le _⟩ dX8_behind_15 rfl rfl ?_
    refine w_if_ne (tgt := 24) (pc2 := 21) G dX8_behind_18 (by decide) rfl (fun cc => ?_) (fun cc => ?_)
    · replace h := (if_neg cc).symm.trans h
      refine w_aload_n (pc2 := 25) G 0 rfl dX8_behind_24 rfl rfl ?_
      refine w_iconst (pc2 := 26) G dX8_behind_25 k_iconst_0 rfl ?_
      obtain ⟨x3, H_x3, h⟩ := bs h
      refine w_cV0 (pc2 := 29) (ws2 := (wX8 E a o x3.2.1 x3.2.2.1 c_sightOne c_sightOther c_sights c_pad c_padMany x3.2.2.2.1 x3.2.2.2.2.1 x3.2.2.2.2.2.1 x3.2.2.2.2.2.2.1 x3.2.2.2.2.2.2.2.1 c_order c_digest c_tall x3.2.2.2.2.2.2.2.2.1 x3.2.2.2.2.2.2.2.2.2.1 x3.2.2.2.2.2.2.2.2.2.2.1 x3.2.2.2.2.2.2.2.2.2.2.2.1 x3.2.2.2.2.2.2.2.2.2.2.2.2.1 x3.2.2.2.2.2.2.2.2.2.2.2.2.2.1 x3.2.2.2.2.2.2.2.2.2.2.2.2.2.2.1 x3.2.2.2.2.2.2.2.2.2.2.2.2.2.2.2 c_from c_upTo c_shape c_kept c_isKept c_keptAt c_isWriting)) (As := [.int (0 : Int32)]) (rest := []) G koX8_253 (r_X8_refusal H_x3) (Nat.le_of_ble_eq_true rfl) 8 rfl rfl rfl rfl (Nat.le_of_ble_eq_true rfl) ⟨Nat.zero_le _, Nat.zero_le _⟩ dX8_behind_26 rfl rfl ?_
      refine w_istore_n (pc2 := 30) (lv2 := [(3, .int x3.1), (0, .ref (a o)), (1, .int l1), (2, .int l2)]) G dX8_behind_29 rfl (Nat.le_of_ble_eq_true rfl) rfl rfl ?_
      refine w_aload_n (pc2 := 31) G 1 rfl dX8_behind_30 rfl rfl ?_
      refine w_iload_n (pc2 := 32) G 0 rfl dX8_behind_31 rfl rfl ?_
      refine w_bipush (pc2 := 34) G dX8_behind_32 k_bipush_m6 rfl ?_
      refine w_icmp_eq (tgt := 41) (pc2 := 37) G dX8_behind_34 (by decide) rfl (fun cc => ?_) (fun cc => ?_)
      · replace h := (if_pos cc).symm.trans h
        refine w_aload_n (pc2 := 42) G 1 rfl dX8_behind_41 rfl rfl ?_
        refine w_iload_n (pc2 := 43) G 2 rfl dX8_behind_42 rfl rfl ?_
        refine w_iload_n (pc2 := 44) G 3 rfl dX8_behind_43 rfl rfl ?_
        obtain ⟨x4, H_x4, h⟩ := bs h
        refine w_cV0 (pc2 := 47) (ws2 := (wX8 E a o x3.2.1 x3.2.2.1 c_sightOne c_sightOther c_sights c_pad c_padMany x3.2.2.2.1 x3.2.2.2.2.1 x3.2.2.2.2.2.1 x3.2.2.2.2.2.2.1 x3.2.2.2.2.2.2.2.1 x4.2.1 x4.2.2.1 x4.2.2.2 x3.2.2.2.2.2.2.2.2.1 x3.2.2.2.2.2.2.2.2.2.1 x3.2.2.2.2.2.2.2.2.2.2.1 x3.2.2.2.2.2.2.2.2.2.2.2.1 x3.2.2.2.2.2.2.2.2.2.2.2.2.1 x3.2.2.2.2.2.2.2.2.2.2.2.2.2.1 x3.2.2.2.2.2.2.2.2.2.2.2.2.2.2.1 x3.2.2.2.2.2.2.2.2.2.2.2.2.2.2.2 c_from c_upTo c_shape c_kept c_isKept c_keptAt c_isWriting)) (As := [.int l1, .int l2]) (rest := [.ref (a o)]) G koX8_263 (r_X8_ofSet H_x4) (Nat.le_of_ble_eq_true rfl) 8 rfl rfl rfl rfl (Nat.le_of_ble_eq_true rfl) ⟨Nat.zero_le _, Nat.zero_le _⟩ dX8_behind_44 rfl rfl ?_
        obtain ⟨x5, H_x5, h⟩ := bs h
        refine w_cV0 (pc2 := 50) (ws2 := (wX8 E a o x5.2.1 x5.2.2 c_sightOne c_sightOther c_sights c_pad c_padMany x3.2.2.2.1 x3.2.2.2.2.1 x3.2.2.2.2.2.1 x3.2.2.2.2.2.2.1 x3.2.2.2.2.2.2.2.1 x4.2.1 x4.2.2.1 x4.2.2.2 x3.2.2.2.2.2.2.2.2.1 x3.2.2.2.2.2.2.2.2.2.1 x3.2.2.2.2.2.2.2.2.2.2.1 x3.2.2.2.2.2.2.2.2.2.2.2.1 x3.2.2.2.2.2.2.2.2.2.2.2.2.1 x3.2.2.2.2.2.2.2.2.2.2.2.2.2.1 x3.2.2.2.2.2.2.2.2.2.2.2.2.2.2.1 x3.2.2.2.2.2.2.2.2.2.2.2.2.2.2.2 c_from c_upTo c_shape c_kept c_isKept c_keptAt c_isWriting)) (As := [.int x4.1]) (rest := []) G koX8_257 (r_X8_back H_x5) (Nat.le_of_ble_eq_true rfl) 8 rfl rfl rfl rfl (Nat.le_of_ble_eq_true rfl) ⟨Nat.zero_le _, Nat.zero_le _⟩ dX8_behind_47 rfl rfl ?_
        cases h
        exact w_iret G hQ rfl ⟨rfl, rfl⟩ dX8_behind_50
      · replace h := (if_neg cc).symm.trans h
        refine w_iload_n (pc2 := 38) G 0 rfl dX8_behind_37 rfl rfl ?_
        refine w_goto (tgt := 47) G dX8_behind_38 (by decide) ?_
        obtain ⟨x6, H_x6, h⟩ := bs h
        refine w_cV0 (pc2 := 50) (ws2 := (wX8 E a o x6.2.1 x6.2.2 c_sightOne c_sightOther c_sights c_pad c_padMany x3.2.2.2.1 x3.2.2.2.2.1 x3.2.2.2.2.2.1 x3.2.2.2.2.2.2.1 x3.2.2.2.2.2.2.2.1 c_order c_digest c_tall x3.2.2.2.2.2.2.2.2.1 x3.2.2.2.2.2.2.2.2.2.1 x3.2.2.2.2.2.2.2.2.2.2.1 x3.2.2.2.2.2.2.2.2.2.2.2.1 x3.2.2.2.2.2.2.2.2.2.2.2.2.1 x3.2.2.2.2.2.2.2.2.2.2.2.2.2.1 x3.2.2.2.2.2.2.2.2.2.2.2.2.2.2.1 x3.2.2.2.2.2.2.2.2.2.2.2.2.2.2.2 c_from c_upTo c_shape c_kept c_isKept c_keptAt c_isWriting)) (As := [.int x3.1]) (rest := []) G koX8_257 (r_X8_back H_x6) (Nat.le_of_ble_eq_true rfl) 8 rfl rfl rfl rfl (Nat.le_of_ble_eq_true rfl) ⟨Nat.zero_le _, Nat.zero_le _⟩ dX8_behind_47 rfl rfl ?_
        cases h
        exact w_iret G hQ rfl ⟨rfl, rfl⟩ dX8_behind_50
    · replace h := (if_pos cc).symm.trans h
      refine w_bipush (pc2 := 23) G dX8_behind_21 k_bipush_m2 rfl ?_
      cases h
      exact w_iret G hQ rfl ⟨rfl, rfl⟩ dX8_behind_23
  · replace h := (if_pos cc).symm.trans h
    refine w_iconst (pc2 := 8) G dX8_behind_7 k_iconst_m1 rfl ?_
    cases h
    exact w_iret G hQ rfl ⟨rfl, rfl⟩ dX8_behind_8

set_option maxHeartbeats 4000000 in
set_option maxRecDepth 100000 in
theorem r_X8_alike {l : Launch} {E : EV} {a : Nat → Nat} {o : Nat} {c_seed : Int32} {c_is c_sightOne c_sightOther : Nat → Int32} {c_sights : Int32} {c_pad : Nat → Int32} {c_padMany : Int32} {c_act c_which c_key c_other : Nat → Int32} {c_acts : Int32} {c_order : Nat → Int32} {c_digest : Nat → Int64} {c_tall c_had : Nat → Int32} {c_badAct c_badWhy c_alikeAct c_alikeTwo c_work c_isWorked : Int32} {c_trees : Nat → Int64} {c_from c_upTo : Nat → Int32} {c_shape : Nat → Int64} {c_kept c_isKept : Nat → Int32} {c_keptAt c_isWriting : Int32} {l1 : Int32} {R : Int32 × Int32 × (Nat → Int32) × (Nat → Int32) × (Nat → Int32) × (Nat → Int32) × (Nat → Int32) × Int32 × (Nat → Int32) × Int32 × Int32 × Int32 × Int32 × Int32 × Int32 × (Nat → Int64)} (h : f_X8_alike c_seed c_is c_pad c_padMany c_act c_which c_key c_other c_acts c_had c_badAct c_badWhy c_alikeAct c_alikeTwo c_work c_isWorked c_trees l1 = some R) : Ret1 l E yX8_alike cX8_alike 3 (some .int) 9 (wX8 E a o c_seed c_is c_sightOne c_sightOther c_sights c_pad c_padMany c_act c_which c_key c_other c_acts c_order c_digest c_tall c_had c_badAct c_badWhy c_alikeAct c_alikeTwo c_work c_isWorked c_trees c_from c_upTo c_shape c_kept c_isKept c_keptAt c_isWriting) [.ref (a o), .int l1] (some (.int R.1)) (wX8 E a o R.2.1 R.2.2.1 c_sightOne c_sightOther c_sights c_pad c_padMany R.2.2.2.1 R.2.2.2.2.1 R.2.2.2.2.2.1 R.2.2.2.2.2.2.1 R.2.2.2.2.2.2.2.1 c_order c_digest c_tall R.2.2.2.2.2.2.2.2.1 R.2.2.2.2.2.2.2.2.2.1 R.2.2.2.2.2.2.2.2.2.2.1 R.2.2.2.2.2.2.2.2.2.2.2.1 R.2.2.2.2.2.2.2.2.2.2.2.2.1 R.2.2.2.2.2.2.2.2.2.2.2.2.2.1 R.2.2.2.2.2.2.2.2.2.2.2.2.2.2.1 R.2.2.2.2.2.2.2.2.2.2.2.2.2.2.2 c_from c_upTo c_shape c_kept c_isKept c_keptAt c_isWriting) := by
  refine Ret.intro (lv := [(0, .ref (a o)), (1, .int l1)]) (by decide) (Nat.le_of_ble_eq_true rfl) rfl ?_
  intro g hgl G hQ
  subst hgl
  rw [f_X8_alike] at h
  refine w_iload_n (pc2 := 1) G 1 rfl dX8_alike_0 rfl rfl ?_
  refine w_i2l (pc2 := 2) G dX8_alike_1 rfl ?_
  refine w_lconst (pc2 := 3) G dX8_alike_2 k_lconst_0 rfl ?_
  refine w_ldc2 (pc2 := 6) G wd_310 dX8_alike_3 rfl ?_
  obtain ⟨x1, H_x1, h⟩ := bs h
  refine w_cS0 (pc2 := 9) (As := [.long l1.toInt64, .long (0 : Int64), .long (2 : Int64)]) (rest := []) G koX8_68 (r_X8_in H_x1) (Nat.le_of_ble_eq_true rfl) rfl rfl (Nat.le_of_ble_eq_true rfl) ⟨Nat.zero_le _, Nat.zero_le _⟩ dX8_alike_6 rfl rfl ?_
  refine w_if_ne (tgt := 15) (pc2 := 12) G dX8_alike_9 (by decide) rfl (fun cc => ?_) (fun cc => ?_)
  · replace h := (if_neg cc).symm.trans h
    refine w_aload_n (pc2 := 16) G 0 rfl dX8_alike_15 rfl rfl ?_
    refine w_iconst (pc2 := 17) G dX8_alike_16 k_iconst_0 rfl ?_
    obtain ⟨x2, H_x2, h⟩ := bs h
    refine w_cV0 (pc2 := 20) (ws2 := (wX8 E a o x2.2.1 x2.2.2.1 c_sightOne c_sightOther c_sights c_pad c_padMany x2.2.2.2.1 x2.2.2.2.2.1 x2.2.2.2.2.2.1 x2.2.2.2.2.2.2.1 x2.2.2.2.2.2.2.2.1 c_order c_digest c_tall x2.2.2.2.2.2.2.2.2.1 x2.2.2.2.2.2.2.2.2.2.1 x2.2.2.2.2.2.2.2.2.2.2.1 x2.2.2.2.2.2.2.2.2.2.2.2.1 x2.2.2.2.2.2.2.2.2.2.2.2.2.1 x2.2.2.2.2.2.2.2.2.2.2.2.2.2.1 x2.2.2.2.2.2.2.2.2.2.2.2.2.2.2.1 x2.2.2.2.2.2.2.2.2.2.2.2.2.2.2.2 c_from c_upTo c_shape c_kept c_isKept c_keptAt c_isWriting)) (As := [.int (0 : Int32)]) (rest := []) G koX8_253 (r_X8_refusal H_x2) (Nat.le_of_ble_eq_true rfl) 8 rfl rfl rfl rfl (Nat.le_of_ble_eq_true rfl) ⟨Nat.zero_le _, Nat.zero_le _⟩ dX8_alike_17 rfl rfl ?_
    refine w_istore_n (pc2 := 21) (lv2 := [(2, .int x2.1), (0, .ref (a o)), (1, .int l1)]) G dX8_alike_20 rfl (Nat.le_of_ble_eq_true rfl) rfl rfl ?_
    refine w_aload_n (pc2 := 22) G 1 rfl dX8_alike_21 rfl rfl ?_
    refine w_iload_n (pc2 := 23) G 0 rfl dX8_alike_22 rfl rfl ?_
    refine w_bipush (pc2 := 25) G dX8_alike_23 k_bipush_m6 rfl ?_
    refine w_icmp_eq (tgt := 32) (pc2 := 28) G dX8_alike_25 (by decide) rfl (fun cc => ?_) (fun cc => ?_)
    · replace h := (if_pos cc).symm.trans h
      refine w_iload_n (pc2 := 33) G 2 rfl dX8_alike_32 rfl rfl ?_
      refine w_if_ne (tgt := 43) (pc2 := 36) G dX8_alike_33 (by decide) rfl (fun cc => ?_) (fun cc => ?_)
      · replace h := (if_neg cc).symm.trans h
        refine w_iload_n (pc2 := 44) G 2 rfl dX8_alike_43 rfl rfl ?_
        refine w_iconst (pc2 := 45) G dX8_alike_44 k_iconst_1 rfl ?_
        refine w_icmp_ne (tgt := 55) (pc2 := 48) G dX8_alike_45 (by decide) rfl (fun cc => ?_) (fun cc => ?_)
        · replace h := (if_neg cc).symm.trans h
          refine w_aload_n (pc2 := 56) G 1 rfl dX8_alike_55 rfl rfl ?_
          refine w_get (pc2 := 59) G foX8_78 0 rfl rfl dX8_alike_56 rfl ?_
          obtain ⟨x3, H_x3, h⟩ := bs h
          refine w_cV0 (pc2 := 62) (ws2 := (wX8 E a o x3.2.1 x3.2.2 c_sightOne c_sightOther c_sights c_pad c_padMany x2.2.2.2.1 x2.2.2.2.2.1 x2.2.2.2.2.2.1 x2.2.2.2.2.2.2.1 x2.2.2.2.2.2.2.2.1 c_order c_digest c_tall x2.2.2.2.2.2.2.2.2.1 x2.2.2.2.2.2.2.2.2.2.1 x2.2.2.2.2.2.2.2.2.2.2.1 x2.2.2.2.2.2.2.2.2.2.2.2.1 x2.2.2.2.2.2.2.2.2.2.2.2.2.1 x2.2.2.2.2.2.2.2.2.2.2.2.2.2.1 x2.2.2.2.2.2.2.2.2.2.2.2.2.2.2.1 x2.2.2.2.2.2.2.2.2.2.2.2.2.2.2.2 c_from c_upTo c_shape c_kept c_isKept c_keptAt c_isWriting)) (As := [.int x2.2.1]) (rest := []) G koX8_257 (r_X8_back H_x3) (Nat.le_of_ble_eq_true rfl) 8 rfl rfl rfl rfl (Nat.le_of_ble_eq_true rfl) ⟨Nat.zero_le _, Nat.zero_le _⟩ dX8_alike_59 rfl rfl ?_
          cases h
          exact w_iret G hQ rfl ⟨rfl, rfl⟩ dX8_alike_62
        · replace h := (if_pos cc).symm.trans h
          refine w_aload_n (pc2 := 49) G 1 rfl dX8_alike_48 rfl rfl ?_
          refine w_get (pc2 := 52) G foX8_225 0 rfl rfl dX8_alike_49 rfl ?_
          refine w_goto (tgt := 59) G dX8_alike_52 (by decide) ?_
          obtain ⟨x4, H_x4, h⟩ := bs h
          refine w_cV0 (pc2 := 62) (ws2 := (wX8 E a o x4.2.1 x4.2.2 c_sightOne c_sightOther c_sights c_pad c_padMany x2.2.2.2.1 x2.2.2.2.2.1 x2.2.2.2.2.2.1 x2.2.2.2.2.2.2.1 x2.2.2.2.2.2.2.2.1 c_order c_digest c_tall x2.2.2.2.2.2.2.2.2.1 x2.2.2.2.2.2.2.2.2.2.1 x2.2.2.2.2.2.2.2.2.2.2.1 x2.2.2.2.2.2.2.2.2.2.2.2.1 x2.2.2.2.2.2.2.2.2.2.2.2.2.1 x2.2.2.2.2.2.2.2.2.2.2.2.2.2.1 x2.2.2.2.2.2.2.2.2.2.2.2.2.2.2.1 x2.2.2.2.2.2.2.2.2.2.2.2.2.2.2.2 c_from c_upTo c_shape c_kept c_isKept c_keptAt c_isWriting)) (As := [.int x2.2.2.2.2.2.2.2.2.2.2.2.2.1]) (rest := []) G koX8_257 (r_X8_back H_x4) (Nat.le_of_ble_eq_true rfl) 8 rfl rfl rfl rfl (Nat.le_of_ble_eq_true rfl) ⟨Nat.zero_le _, Nat.zero_le _⟩ dX8_alike_59 rfl rfl ?_
          cases h
          exact w_iret G hQ rfl ⟨rfl, rfl⟩ dX8_alike_62
      · replace h := (if_pos cc).symm.trans h
        refine w_aload_n (pc2 := 37) G 1 rfl dX8_alike_36 rfl rfl ?_
        refine w_get (pc2 := 40) G foX8_219 0 rfl rfl dX8_alike_37 rfl ?_
        refine w_goto (tgt := 59) G dX8_alike_40 (by decide) ?_
        obtain ⟨x5, H_x5, h⟩ := bs h
        refine w_cV0 (pc2 := 62) (ws2 := (wX8 E a o x5.2.1 x5.2.2 c_sightOne c_sightOther c_sights c_pad c_padMany x2.2.2.2.1 x2.2.2.2.2.1 x2.2.2.2.2.2.1 x2.2.2.2.2.2.2.1 x2.2.2.2.2.2.2.2.1 c_order c_digest c_tall x2.2.2.2.2.2.2.2.2.1 x2.2.2.2.2.2.2.2.2.2.1 x2.2.2.2.2.2.2.2.2.2.2.1 x2.2.2.2.2.2.2.2.2.2.2.2.1 x2.2.2.2.2.2.2.2.2.2.2.2.2.1 x2.2.2.2.2.2.2.2.2.2.2.2.2.2.1 x2.2.2.2.2.2.2.2.2.2.2.2.2.2.2.1 x2.2.2.2.2.2.2.2.2.2.2.2.2.2.2.2 c_from c_upTo c_shape c_kept c_isKept c_keptAt c_isWriting)) (As := [.int x2.2.2.2.2.2.2.2.2.2.2.2.1]) (rest := []) G koX8_257 (r_X8_back H_x5) (Nat.le_of_ble_eq_true rfl) 8 rfl rfl rfl rfl (Nat.le_of_ble_eq_true rfl) ⟨Nat.zero_le _, Nat.zero_le _⟩ dX8_alike_59 rfl rfl ?_
        cases h
        exact w_iret G hQ rfl ⟨rfl, rfl⟩ dX8_alike_62
    · replace h := (if_neg cc).symm.trans h
      refine w_iload_n (pc2 := 29) G 0 rfl dX8_alike_28 rfl rfl ?_
      refine w_goto (tgt := 59) G dX8_alike_29 (by decide) ?_
      obtain ⟨x6, H_x6, h⟩ := bs h
      refine w_cV0 (pc2 := 62) (ws2 := (wX8 E a o x6.2.1 x6.2.2 c_sightOne c_sightOther c_sights c_pad c_padMany x2.2.2.2.1 x2.2.2.2.2.1 x2.2.2.2.2.2.1 x2.2.2.2.2.2.2.1 x2.2.2.2.2.2.2.2.1 c_order c_digest c_tall x2.2.2.2.2.2.2.2.2.1 x2.2.2.2.2.2.2.2.2.2.1 x2.2.2.2.2.2.2.2.2.2.2.1 x2.2.2.2.2.2.2.2.2.2.2.2.1 x2.2.2.2.2.2.2.2.2.2.2.2.2.1 x2.2.2.2.2.2.2.2.2.2.2.2.2.2.1 x2.2.2.2.2.2.2.2.2.2.2.2.2.2.2.1 x2.2.2.2.2.2.2.2.2.2.2.2.2.2.2.2 c_from c_upTo c_shape c_kept c_isKept c_keptAt c_isWriting)) (As := [.int x2.1]) (rest := []) G koX8_257 (r_X8_back H_x6) (Nat.le_of_ble_eq_true rfl) 8 rfl rfl rfl rfl (Nat.le_of_ble_eq_true rfl) ⟨Nat.zero_le _, Nat.zero_le _⟩ dX8_alike_59 rfl rfl ?_
      cases h
      exact w_iret G hQ rfl ⟨rfl, rfl⟩ dX8_alike_62
  · replace h := (if_pos cc).symm.trans h
    refine w_bipush (pc2 := 14) G dX8_alike_12 k_bipush_m2 rfl ?_
    cases h
    exact w_iret G hQ rfl ⟨rfl, rfl⟩ dX8_alike_14
