set_option maxHeartbeats 4000000 in
set_option maxRecDepth 100000 in
theorem r_X8_say {l : Launch} {E : EV} {a : Nat → Nat} {o : Nat} {c_seed : Int32} {c_is c_sightOne c_sightOther : Nat → Int32} {c_sights : Int32} {c_pad : Nat → Int32} {c_padMany : Int32} {c_act c_which c_key c_other : Nat → Int32} {c_acts : Int32} {c_order : Nat → Int32} {c_digest : Nat → Int64} {c_tall c_had : Nat → Int32} {c_badAct c_badWhy c_alikeAct c_alikeTwo c_work c_isWorked : Int32} {c_trees : Nat → Int64} {c_from c_upTo : Nat → Int32} {c_shape : Nat → Int64} {c_kept c_isKept : Nat → Int32} {c_keptAt c_isWriting : Int32} {l1 : Int32} {R : Int32 × (Nat → Int32) × Int32} (h : f_X8_say c_pad c_padMany l1 = some R) : Ret1 l E yX8_say cX8_say 2 (some .int) 1 (wX8 E a o c_seed c_is c_sightOne c_sightOther c_sights c_pad c_padMany c_act c_which c_key c_other c_acts c_order c_digest c_tall c_had c_badAct c_badWhy c_alikeAct c_alikeTwo c_work c_isWorked c_trees c_from c_upTo c_shape c_kept c_isKept c_keptAt c_isWriting) [.ref (a o), .int l1] (some (.int R.1)) (wX8 E a o c_seed c_is c_sightOne c_sightOther c_sights R.2.1 R.2.2 c_act c_which c_key c_other c_acts c_order c_digest c_tall c_had c_badAct c_badWhy c_alikeAct c_alikeTwo c_work c_isWorked c_trees c_from c_upTo c_shape c_kept c_isKept c_keptAt c_isWriting) := by
  refine Ret.intro (lv := [(0, .ref (a o)), (1, .int l1)]) (by decide) (Nat.le_of_ble_eq_true rfl) rfl ?_
  intro g hgl G hQ
  subst hgl
  rw [f_X8_say] at h
  refine w_iload_n (pc2 := 1) G 1 rfl dX8_say_0 rfl rfl ?_
  refine w_i2l (pc2 := 2) G dX8_say_1 rfl ?_
  refine w_ldc2 (pc2 := 5) G wd_205 dX8_say_2 rfl ?_
  refine w_ldc2 (pc2 := 8) G wd_206 dX8_say_5 rfl ?_
  obtain ⟨x1, H_x1, h⟩ := bs h
  refine w_cS0 (pc2 := 11) (As := [.long l1.toInt64, .long (33 : Int64), .long (126 : Int64)]) (rest := []) G koX8_68 (r_X8_in H_x1) (Nat.le_of_ble_eq_true rfl) rfl rfl (Nat.le_of_ble_eq_true rfl) ⟨Nat.zero_le _, Nat.zero_le _⟩ dX8_say_8 rfl rfl ?_
  refine w_if_ne (tgt := 17) (pc2 := 14) G dX8_say_11 (by decide) rfl (fun cc => ?_) (fun cc => ?_)
  · replace h := (if_neg cc).symm.trans h
    refine w_aload_n (pc2 := 18) G 0 rfl dX8_say_17 rfl rfl ?_
    refine w_get (pc2 := 21) G foX8_107 0 rfl rfl dX8_say_18 rfl ?_
    refine w_bipush (pc2 := 23) G dX8_say_21 k_bipush_60 rfl ?_
    refine w_icmp_ne (tgt := 29) (pc2 := 26) G dX8_say_23 (by decide) rfl (fun cc => ?_) (fun cc => ?_)
    · replace h := (if_neg cc).symm.trans h
      refine w_aload_n (pc2 := 30) G 0 rfl dX8_say_29 rfl rfl ?_
      refine w_get (pc2 := 33) G foX8_19 0 rfl rfl dX8_say_30 rfl ?_
      refine w_aload_n (pc2 := 34) G 0 rfl dX8_say_33 rfl rfl ?_
      refine w_get (pc2 := 37) G foX8_107 0 rfl rfl dX8_say_34 rfl ?_
      refine w_iload_n (pc2 := 38) G 1 rfl dX8_say_37 rfl rfl ?_
      obtain ⟨f2, H_f2, h⟩ := bs h
      refine w_iasto (pc2 := 39) (ws2 := (wX8 E a o c_seed c_is c_sightOne c_sightOther c_sights f2 c_padMany c_act c_which c_key c_other c_acts c_order c_digest c_tall c_had c_badAct c_badWhy c_alikeAct c_alikeTwo c_work c_isWorked c_trees c_from c_upTo c_shape c_kept c_isKept c_keptAt c_isWriting)) G 4 rfl H_f2 rfl dX8_say_38 rfl ?_
      refine w_aload_n (pc2 := 40) G 0 rfl dX8_say_39 rfl rfl ?_
      refine w_dup (pc2 := 41) G dX8_say_40 rfl rfl ?_
      refine w_get (pc2 := 44) G foX8_107 0 rfl rfl dX8_say_41 rfl ?_
      refine w_iconst (pc2 := 45) G dX8_say_44 k_iconst_1 rfl ?_
      refine w_iadd (pc2 := 46) G dX8_say_45 rfl ?_
      refine w_put (pc2 := 49) (ws2 := (wX8 E a o c_seed c_is c_sightOne c_sightOther c_sights f2 (c_padMany + (1 : Int32)) c_act c_which c_key c_other c_acts c_order c_digest c_tall c_had c_badAct c_badWhy c_alikeAct c_alikeTwo c_work c_isWorked c_trees c_from c_upTo c_shape c_kept c_isKept c_keptAt c_isWriting)) G foX8_107 tokX8 0 rfl rfl rfl rfl (Nat.le_of_ble_eq_true rfl) rfl dX8_say_46 rfl ?_
      refine w_aload_n (pc2 := 50) G 0 rfl dX8_say_49 rfl rfl ?_
      refine w_get (pc2 := 53) G foX8_107 0 rfl rfl dX8_say_50 rfl ?_
      cases h
      exact w_iret G hQ rfl ⟨rfl, rfl⟩ dX8_say_53
    · replace h := (if_pos cc).symm.trans h
      refine w_bipush (pc2 := 28) G dX8_say_26 k_bipush_m4 rfl ?_
      cases h
      exact w_iret G hQ rfl ⟨rfl, rfl⟩ dX8_say_28
  · replace h := (if_pos cc).symm.trans h
    refine w_bipush (pc2 := 16) G dX8_say_14 k_bipush_m2 rfl ?_
    cases h
    exact w_iret G hQ rfl ⟨rfl, rfl⟩ dX8_say_16

set_option maxHeartbeats 4000000 in
set_option maxRecDepth 100000 in
theorem r_X8_wipe {l : Launch} {E : EV} {a : Nat → Nat} {o : Nat} {c_seed : Int32} {c_is c_sightOne c_sightOther : Nat → Int32} {c_sights : Int32} {c_pad : Nat → Int32} {c_padMany : Int32} {c_act c_which c_key c_other : Nat → Int32} {c_acts : Int32} {c_order : Nat → Int32} {c_digest : Nat → Int64} {c_tall c_had : Nat → Int32} {c_badAct c_badWhy c_alikeAct c_alikeTwo c_work c_isWorked : Int32} {c_trees : Nat → Int64} {c_from c_upTo : Nat → Int32} {c_shape : Nat → Int64} {c_kept c_isKept : Nat → Int32} {c_keptAt c_isWriting : Int32}  {R : Int32 × Int32} (h : f_X8_wipe c_padMany = some R) : Ret1 l E yX8_wipe cX8_wipe 2 (some .int) 0 (wX8 E a o c_seed c_is c_sightOne c_sightOther c_sights c_pad c_padMany c_act c_which c_key c_other c_acts c_order c_digest c_tall c_had c_badAct c_badWhy c_alikeAct c_alikeTwo c_work c_isWorked c_trees c_from c_upTo c_shape c_kept c_isKept c_keptAt c_isWriting) [.ref (a o)] (some (.int R.1)) (wX8 E a o c_seed c_is c_sightOne c_sightOther c_sights c_pad R.2 c_act c_which c_key c_other c_acts c_order c_digest c_tall c_had c_badAct c_badWhy c_alikeAct c_alikeTwo c_work c_isWorked c_trees c_from c_upTo c_shape c_kept c_isKept c_keptAt c_isWriting) := by
  refine Ret.intro (lv := [(0, .ref (a o))]) (by decide) (Nat.le_of_ble_eq_true rfl) rfl ?_
  intro g hgl G hQ
  subst hgl
  rw [f_X8_wipe] at h
  refine w_aload_n (pc2 := 1) G 0 rfl dX8_wipe_0 rfl rfl ?_
  refine w_get (pc2 := 4) G foX8_107 0 rfl rfl dX8_wipe_1 rfl ?_
  refine w_istore_n (pc2 := 5) (lv2 := [(1, .int c_padMany), (0, .ref (a o))]) G dX8_wipe_4 rfl (Nat.le_of_ble_eq_true rfl) rfl rfl ?_
  refine w_aload_n (pc2 := 6) G 1 rfl dX8_wipe_5 rfl rfl ?_
  refine w_iconst (pc2 := 7) G dX8_wipe_6 k_iconst_0 rfl ?_
  refine w_put (pc2 := 10) (ws2 := (wX8 E a o c_seed c_is c_sightOne c_sightOther c_sights c_pad (0 : Int32) c_act c_which c_key c_other c_acts c_order c_digest c_tall c_had c_badAct c_badWhy c_alikeAct c_alikeTwo c_work c_isWorked c_trees c_from c_upTo c_shape c_kept c_isKept c_keptAt c_isWriting)) G foX8_107 tokX8 0 rfl rfl rfl rfl (Nat.le_of_ble_eq_true rfl) rfl dX8_wipe_7 rfl ?_
  refine w_iload_n (pc2 := 11) G 0 rfl dX8_wipe_10 rfl rfl ?_
  cases h
  exact w_iret G hQ rfl ⟨rfl, rfl⟩ dX8_wipe_11

set_option maxHeartbeats 4000000 in
set_option maxRecDepth 100000 in
theorem r_X8_ends {l : Launch} {E : EV} {a : Nat → Nat} {o : Nat} {c_seed : Int32} {c_is c_sightOne c_sightOther : Nat → Int32} {c_sights : Int32} {c_pad : Nat → Int32} {c_padMany : Int32} {c_act c_which c_key c_other : Nat → Int32} {c_acts : Int32} {c_order : Nat → Int32} {c_digest : Nat → Int64} {c_tall c_had : Nat → Int32} {c_badAct c_badWhy c_alikeAct c_alikeTwo c_work c_isWorked : Int32} {c_trees : Nat → Int64} {c_from c_upTo : Nat → Int32} {c_shape : Nat → Int64} {c_kept c_isKept : Nat → Int32} {c_keptAt c_isWriting : Int32}  {R : Int32 × Int32} (h : f_X8_ends c_acts = some R) : Ret1 l E yX8_ends cX8_ends 1 (some .int) 0 (wX8 E a o c_seed c_is c_sightOne c_sightOther c_sights c_pad c_padMany c_act c_which c_key c_other c_acts c_order c_digest c_tall c_had c_badAct c_badWhy c_alikeAct c_alikeTwo c_work c_isWorked c_trees c_from c_upTo c_shape c_kept c_isKept c_keptAt c_isWriting) [.ref (a o)] (some (.int R.1)) (wX8 E a o c_seed c_is c_sightOne c_sightOther c_sights c_pad c_padMany c_act c_which c_key c_other R.2 c_order c_digest c_tall c_had c_badAct c_badWhy c_alikeAct c_alikeTwo c_work c_isWorked c_trees c_from c_upTo c_shape c_kept c_isKept c_keptAt c_isWriting) := by
  refine Ret.intro (lv := [(0, .ref (a o))]) (by decide) (Nat.le_of_ble_eq_true rfl) rfl ?_
  intro g hgl G hQ
  subst hgl
  rw [f_X8_ends] at h
  refine w_aload_n (pc2 := 1) G 0 rfl dX8_ends_0 rfl rfl ?_
  refine w_dup (pc2 := 2) G dX8_ends_1 rfl rfl ?_
  refine w_get (pc2 := 5) G foX8_110 0 rfl rfl dX8_ends_2 rfl ?_
  refine w_iconst (pc2 := 6) G dX8_ends_5 k_iconst_1 rfl ?_
  refine w_iadd (pc2 := 7) G dX8_ends_6 rfl ?_
  refine w_put (pc2 := 10) (ws2 := (wX8 E a o c_seed c_is c_sightOne c_sightOther c_sights c_pad c_padMany c_act c_which c_key c_other (c_acts + (1 : Int32)) c_order c_digest c_tall c_had c_badAct c_badWhy c_alikeAct c_alikeTwo c_work c_isWorked c_trees c_from c_upTo c_shape c_kept c_isKept c_keptAt c_isWriting)) G foX8_110 tokX8 0 rfl rfl rfl rfl (Nat.le_of_ble_eq_true rfl) rfl dX8_ends_7 rfl ?_
  refine w_iconst (pc2 := 11) G dX8_ends_10 k_iconst_0 rfl ?_
  cases h
  exact w_iret G hQ rfl ⟨rfl, rfl⟩ dX8_ends_11

set_option maxHeartbeats 4000000 in
set_option maxRecDepth 100000 in
theorem r_X8_begin {l : Launch} {E : EV} {a : Nat → Nat} {o : Nat} {c_seed : Int32} {c_is c_sightOne c_sightOther : Nat → Int32} {c_sights : Int32} {c_pad : Nat → Int32} {c_padMany : Int32} {c_act c_which c_key c_other : Nat → Int32} {c_acts : Int32} {c_order : Nat → Int32} {c_digest : Nat → Int64} {c_tall c_had : Nat → Int32} {c_badAct c_badWhy c_alikeAct c_alikeTwo c_work c_isWorked : Int32} {c_trees : Nat → Int64} {c_from c_upTo : Nat → Int32} {c_shape : Nat → Int64} {c_kept c_isKept : Nat → Int32} {c_keptAt c_isWriting : Int32} {l1 : Int32} {R : Int32 × (Nat → Int32) × (Nat → Int32) × (Nat → Int32) × (Nat → Int32) × Int32} (h : f_X8_begin c_act c_which c_key c_other c_acts l1 = some R) : Ret1 l E yX8_begin cX8_begin 2 (some .int) 1 (wX8 E a o c_seed c_is c_sightOne c_sightOther c_sights c_pad c_padMany c_act c_which c_key c_other c_acts c_order c_digest c_tall c_had c_badAct c_badWhy c_alikeAct c_alikeTwo c_work c_isWorked c_trees c_from c_upTo c_shape c_kept c_isKept c_keptAt c_isWriting) [.ref (a o), .int l1] (some (.int R.1)) (wX8 E a o c_seed c_is c_sightOne c_sightOther c_sights c_pad c_padMany R.2.1 R.2.2.1 R.2.2.2.1 R.2.2.2.2.1 R.2.2.2.2.2 c_order c_digest c_tall c_had c_badAct c_badWhy c_alikeAct c_alikeTwo c_work c_isWorked c_trees c_from c_upTo c_shape c_kept c_isKept c_keptAt c_isWriting) := by
  refine Ret.intro (lv := [(0, .ref (a o)), (1, .int l1)]) (by decide) (Nat.le_of_ble_eq_true rfl) rfl ?_
  intro g hgl G hQ
  subst hgl
  rw [f_X8_begin] at h
  refine w_aload_n (pc2 := 1) G 0 rfl dX8_begin_0 rfl rfl ?_
  refine w_get (pc2 := 4) G foX8_25 0 rfl rfl dX8_begin_1 rfl ?_
  refine w_aload_n (pc2 := 5) G 0 rfl dX8_begin_4 rfl rfl ?_
  refine w_get (pc2 := 8) G foX8_110 0 rfl rfl dX8_begin_5 rfl ?_
  refine w_iload_n (pc2 := 9) G 1 rfl dX8_begin_8 rfl rfl ?_
  refine w_i2l (pc2 := 10) G dX8_begin_9 rfl ?_
  refine w_ldc2 (pc2 := 13) G wd_207 dX8_begin_10 rfl ?_
  refine w_ldc2 (pc2 := 16) G wd_208 dX8_begin_13 rfl ?_
  obtain ⟨x1, H_x1, h⟩ := bs h
  refine w_cS0 (pc2 := 19) (As := [.long l1.toInt64, .long (65 : Int64), .long (68 : Int64)]) (rest := [.int c_acts, .ref (a (o + 6))]) G koX8_68 (r_X8_in H_x1) (Nat.le_of_ble_eq_true rfl) rfl rfl (Nat.le_of_ble_eq_true rfl) ⟨Nat.zero_le _, Nat.zero_le _⟩ dX8_begin_16 rfl rfl ?_
  obtain ⟨x2, h0, h⟩ := bs h
  have K_x2 : WW g E 2 0 0 (wX8 E a o c_seed c_is c_sightOne c_sightOther c_sights c_pad c_padMany c_act c_which c_key c_other c_acts c_order c_digest c_tall c_had c_badAct c_badWhy c_alikeAct c_alikeTwo c_work c_isWorked c_trees c_from c_upTo c_shape c_kept c_isKept c_keptAt c_isWriting) [(0, .ref (a o)), (1, .int l1)] 30 [.int x2, .int c_acts, .ref (a (o + 6))] := by
    clear h0
    obtain ⟨f3, H_f3, h⟩ := bs h
    refine w_iasto (pc2 := 31) (ws2 := (wX8 E a o c_seed c_is c_sightOne c_sightOther c_sights c_pad c_padMany c_act f3 c_key c_other c_acts c_order c_digest c_tall c_had c_badAct c_badWhy c_alikeAct c_alikeTwo c_work c_isWorked c_trees c_from c_upTo c_shape c_kept c_isKept c_keptAt c_isWriting)) G 6 rfl H_f3 rfl dX8_begin_30 rfl ?_
    refine w_aload_n (pc2 := 32) G 0 rfl dX8_begin_31 rfl rfl ?_
    refine w_get (pc2 := 35) G foX8_28 0 rfl rfl dX8_begin_32 rfl ?_
    refine w_aload_n (pc2 := 36) G 0 rfl dX8_begin_35 rfl rfl ?_
    refine w_get (pc2 := 39) G foX8_110 0 rfl rfl dX8_begin_36 rfl ?_
    refine w_iconst (pc2 := 40) G dX8_begin_39 k_iconst_0 rfl ?_
    obtain ⟨f4, H_f4, h⟩ := bs h
    refine w_iasto (pc2 := 41) (ws2 := (wX8 E a o c_seed c_is c_sightOne c_sightOther c_sights c_pad c_padMany c_act f3 f4 c_other c_acts c_order c_digest c_tall c_had c_badAct c_badWhy c_alikeAct c_alikeTwo c_work c_isWorked c_trees c_from c_upTo c_shape c_kept c_isKept c_keptAt c_isWriting)) G 7 rfl H_f4 rfl dX8_begin_40 rfl ?_
    refine w_aload_n (pc2 := 42) G 0 rfl dX8_begin_41 rfl rfl ?_
    refine w_get (pc2 := 45) G foX8_31 0 rfl rfl dX8_begin_42 rfl ?_
    refine w_aload_n (pc2 := 46) G 0 rfl dX8_begin_45 rfl rfl ?_
    refine w_get (pc2 := 49) G foX8_110 0 rfl rfl dX8_begin_46 rfl ?_
    refine w_iconst (pc2 := 50) G dX8_begin_49 k_iconst_0 rfl ?_
    obtain ⟨f5, H_f5, h⟩ := bs h
    refine w_iasto (pc2 := 51) (ws2 := (wX8 E a o c_seed c_is c_sightOne c_sightOther c_sights c_pad c_padMany c_act f3 f4 f5 c_acts c_order c_digest c_tall c_had c_badAct c_badWhy c_alikeAct c_alikeTwo c_work c_isWorked c_trees c_from c_upTo c_shape c_kept c_isKept c_keptAt c_isWriting)) G 8 rfl H_f5 rfl dX8_begin_50 rfl ?_
    refine w_aload_n (pc2 := 52) G 0 rfl dX8_begin_51 rfl rfl ?_
    refine w_get (pc2 := 55) G foX8_22 0 rfl rfl dX8_begin_52 rfl ?_
    refine w_aload_n (pc2 := 56) G 0 rfl dX8_begin_55 rfl rfl ?_
    refine w_get (pc2 := 59) G foX8_110 0 rfl rfl dX8_begin_56 rfl ?_
    refine w_bipush (pc2 := 61) G dX8_begin_59 k_bipush_7 rfl ?_
    obtain ⟨f6, H_f6, h⟩ := bs h
    refine w_iasto (pc2 := 62) (ws2 := (wX8 E a o c_seed c_is c_sightOne c_sightOther c_sights c_pad c_padMany f6 f3 f4 f5 c_acts c_order c_digest c_tall c_had c_badAct c_badWhy c_alikeAct c_alikeTwo c_work c_isWorked c_trees c_from c_upTo c_shape c_kept c_isKept c_keptAt c_isWriting)) G 5 rfl H_f6 rfl dX8_begin_61 rfl ?_
    refine w_iload_n (pc2 := 63) G 1 rfl dX8_begin_62 rfl rfl ?_
    refine w_bipush (pc2 := 65) G dX8_begin_63 k_bipush_33 rfl ?_
    refine w_icmp_ne (tgt := 75) (pc2 := 68) G dX8_begin_65 (by decide) rfl (fun cc => ?_) (fun cc => ?_)
    · replace h := (if_neg cc).symm.trans h
      refine w_iload_n (pc2 := 76) G 1 rfl dX8_begin_75 rfl rfl ?_
      refine w_i2l (pc2 := 77) G dX8_begin_76 rfl ?_
      refine w_ldc2 (pc2 := 80) G wd_207 dX8_begin_77 rfl ?_
      refine w_ldc2 (pc2 := 83) G wd_208 dX8_begin_80 rfl ?_
      obtain ⟨x7, H_x7, h⟩ := bs h
      refine w_cS0 (pc2 := 86) (As := [.long l1.toInt64, .long (65 : Int64), .long (68 : Int64)]) (rest := []) G koX8_68 (r_X8_in H_x7) (Nat.le_of_ble_eq_true rfl) rfl rfl (Nat.le_of_ble_eq_true rfl) ⟨Nat.zero_le _, Nat.zero_le _⟩ dX8_begin_83 rfl rfl ?_
      refine w_if_eq (tgt := 93) (pc2 := 89) G dX8_begin_86 (by decide) rfl (fun cc => ?_) (fun cc => ?_)
      · replace h := (if_pos cc).symm.trans h
        refine w_bipush (pc2 := 95) G dX8_begin_93 k_bipush_m6 rfl ?_
        cases h
        exact w_iret G hQ rfl ⟨rfl, rfl⟩ dX8_begin_95
      · replace h := (if_neg cc).symm.trans h
        refine w_iconst (pc2 := 90) G dX8_begin_89 k_iconst_1 rfl ?_
        refine w_goto (tgt := 95) G dX8_begin_90 (by decide) ?_
        cases h
        exact w_iret G hQ rfl ⟨rfl, rfl⟩ dX8_begin_95
    · replace h := (if_pos cc).symm.trans h
      refine w_aload_n (pc2 := 69) G 0 rfl dX8_begin_68 rfl rfl ?_
      obtain ⟨x8, H_x8, h⟩ := bs h
      refine w_cV0 (pc2 := 72) (ws2 := (wX8 E a o c_seed c_is c_sightOne c_sightOther c_sights c_pad c_padMany f6 f3 f4 f5 x8.2 c_order c_digest c_tall c_had c_badAct c_badWhy c_alikeAct c_alikeTwo c_work c_isWorked c_trees c_from c_upTo c_shape c_kept c_isKept c_keptAt c_isWriting)) (As := []) (rest := []) G koX8_117 (r_X8_ends H_x8) (Nat.le_of_ble_eq_true rfl) 8 rfl rfl rfl rfl (Nat.le_of_ble_eq_true rfl) ⟨Nat.zero_le _, Nat.zero_le _⟩ dX8_begin_69 rfl rfl ?_
      refine w_goto (tgt := 95) G dX8_begin_72 (by decide) ?_
      cases h
      exact w_iret G hQ rfl ⟨rfl, rfl⟩ dX8_begin_95
  replace h := h0
  clear h0
  refine w_if_eq (tgt := 29) (pc2 := 22) G dX8_begin_19 (by decide) rfl (fun cc => ?_) (fun cc => ?_)
  · replace h := (if_pos cc).symm.trans h
    refine w_iconst (pc2 := 30) G dX8_begin_29 k_iconst_0 rfl ?_
    cases h
    exact w_lv [0, 1] rfl K_x2
  · replace h := (if_neg cc).symm.trans h
    refine w_iload_n (pc2 := 23) G 1 rfl dX8_begin_22 rfl rfl ?_
    refine w_bipush (pc2 := 25) G dX8_begin_23 k_bipush_65 rfl ?_
    refine w_isub (pc2 := 26) G dX8_begin_25 rfl ?_
    refine w_goto (tgt := 30) G dX8_begin_26 (by decide) ?_
    cases h
    exact w_lv [0, 1] rfl K_x2

set_option maxHeartbeats 4000000 in
set_option maxRecDepth 100000 in
theorem r_X8_deed {l : Launch} {E : EV} {a : Nat → Nat} {o : Nat} {c_seed : Int32} {c_is c_sightOne c_sightOther : Nat → Int32} {c_sights : Int32} {c_pad : Nat → Int32} {c_padMany : Int32} {c_act c_which c_key c_other : Nat → Int32} {c_acts : Int32} {c_order : Nat → Int32} {c_digest : Nat → Int64} {c_tall c_had : Nat → Int32} {c_badAct c_badWhy c_alikeAct c_alikeTwo c_work c_isWorked : Int32} {c_trees : Nat → Int64} {c_from c_upTo : Nat → Int32} {c_shape : Nat → Int64} {c_kept c_isKept : Nat → Int32} {c_keptAt c_isWriting : Int32} {l1 : Int32} {l2 : Int32} {R : Int32 × (Nat → Int32)} (h : f_X8_deed c_act c_acts l1 l2 = some R) : Ret1 l E yX8_deed cX8_deed 3 (some .int) 0 (wX8 E a o c_seed c_is c_sightOne c_sightOther c_sights c_pad c_padMany c_act c_which c_key c_other c_acts c_order c_digest c_tall c_had c_badAct c_badWhy c_alikeAct c_alikeTwo c_work c_isWorked c_trees c_from c_upTo c_shape c_kept c_isKept c_keptAt c_isWriting) [.ref (a o), .int l1, .int l2] (some (.int R.1)) (wX8 E a o c_seed c_is c_sightOne c_sightOther c_sights c_pad c_padMany R.2 c_which c_key c_other c_acts c_order c_digest c_tall c_had c_badAct c_badWhy c_alikeAct c_alikeTwo c_work c_isWorked c_trees c_from c_upTo c_shape c_kept c_isKept c_keptAt c_isWriting) := by
  refine Ret.intro (lv := [(0, .ref (a o)), (1, .int l1), (2, .int l2)]) (by decide) (Nat.le_of_ble_eq_true rfl) rfl ?_
  intro g hgl G hQ
  subst hgl
  rw [f_X8_deed] at h
  refine w_aload_n (pc2 := 1) G 0 rfl dX8_deed_0 rfl rfl ?_
  refine w_get (pc2 := 4) G foX8_22 0 rfl rfl dX8_deed_1 rfl ?_
  refine w_aload_n (pc2 := 5) G 0 rfl dX8_deed_4 rfl rfl ?_
  refine w_get (pc2 := 8) G foX8_110 0 rfl rfl dX8_deed_5 rfl ?_
  refine w_iload_n (pc2 := 9) G 1 rfl dX8_deed_8 rfl rfl ?_
  obtain ⟨f1, H_f1, h⟩ := bs h
  refine w_iasto (pc2 := 10) (ws2 := (wX8 E a o c_seed c_is c_sightOne c_sightOther c_sights c_pad c_padMany f1 c_which c_key c_other c_acts c_order c_digest c_tall c_had c_badAct c_badWhy c_alikeAct c_alikeTwo c_work c_isWorked c_trees c_from c_upTo c_shape c_kept c_isKept c_keptAt c_isWriting)) G 5 rfl H_f1 rfl dX8_deed_9 rfl ?_
  refine w_iload_n (pc2 := 11) G 2 rfl dX8_deed_10 rfl rfl ?_
  cases h
  exact w_iret G hQ rfl ⟨rfl, rfl⟩ dX8_deed_11

set_option maxHeartbeats 4000000 in
set_option maxRecDepth 100000 in
theorem r_X8_begun {l : Launch} {E : EV} {a : Nat → Nat} {o : Nat} {c_seed : Int32} {c_is c_sightOne c_sightOther : Nat → Int32} {c_sights : Int32} {c_pad : Nat → Int32} {c_padMany : Int32} {c_act c_which c_key c_other : Nat → Int32} {c_acts : Int32} {c_order : Nat → Int32} {c_digest : Nat → Int64} {c_tall c_had : Nat → Int32} {c_badAct c_badWhy c_alikeAct c_alikeTwo c_work c_isWorked : Int32} {c_trees : Nat → Int64} {c_from c_upTo : Nat → Int32} {c_shape : Nat → Int64} {c_kept c_isKept : Nat → Int32} {c_keptAt c_isWriting : Int32} {l1 : Int32} {R : Int32 × (Nat → Int32)} (h : f_X8_begun c_act c_acts l1 = some R) : Ret1 l E yX8_begun cX8_begun 2 (some .int) 1 (wX8 E a o c_seed c_is c_sightOne c_sightOther c_sights c_pad c_padMany c_act c_which c_key c_other c_acts c_order c_digest c_tall c_had c_badAct c_badWhy c_alikeAct c_alikeTwo c_work c_isWorked c_trees c_from c_upTo c_shape c_kept c_isKept c_keptAt c_isWriting) [.ref (a o), .int l1] (some (.int R.1)) (wX8 E a o c_seed c_is c_sightOne c_sightOther c_sights c_pad c_padMany R.2 c_which c_key c_other c_acts c_order c_digest c_tall c_had c_badAct c_badWhy c_alikeAct c_alikeTwo c_work c_isWorked c_trees c_from c_upTo c_shape c_kept c_isKept c_keptAt c_isWriting) := by
  refine Ret.intro (lv := [(0, .ref (a o)), (1, .int l1)]) (by decide) (Nat.le_of_ble_eq_true rfl) rfl ?_
  intro g hgl G hQ
  subst hgl
  rw [f_X8_begun] at h
  refine w_iload_n (pc2 := 1) G 1 rfl dX8_begun_0 rfl rfl ?_
  by_cases sdX8_begun_1_0 : l1 = (38 : Int32)
  · replace h := (if_pos sdX8_begun_1_0).symm.trans h
    refine w_look (tgt := 89) G dX8_begun_1 (by decide) (by rw [sdX8_begun_1_0] <;> rfl) (by decide) ?_
    refine w_aload_n (pc2 := 90) G 0 rfl dX8_begun_89 rfl rfl ?_
    refine w_iconst (pc2 := 91) G dX8_begun_90 k_iconst_3 rfl ?_
    refine w_iconst (pc2 := 92) G dX8_begun_91 k_iconst_4 rfl ?_
    obtain ⟨x1, H_x1, h⟩ := bs h
    refine w_cV0 (pc2 := 95) (ws2 := (wX8 E a o c_seed c_is c_sightOne c_sightOther c_sights c_pad c_padMany x1.2 c_which c_key c_other c_acts c_order c_digest c_tall c_had c_badAct c_badWhy c_alikeAct c_alikeTwo c_work c_isWorked c_trees c_from c_upTo c_shape c_kept c_isKept c_keptAt c_isWriting)) (As := [.int (3 : Int32), .int (4 : Int32)]) (rest := []) G koX8_121 (r_X8_deed H_x1) (Nat.le_of_ble_eq_true rfl) 8 rfl rfl rfl rfl (Nat.le_of_ble_eq_true rfl) ⟨Nat.zero_le _, Nat.zero_le _⟩ dX8_begun_92 rfl rfl ?_
    cases h
    exact w_iret G hQ rfl ⟨rfl, rfl⟩ dX8_begun_95
  replace h := (if_neg sdX8_begun_1_0).symm.trans h
  by_cases sdX8_begun_1_1 : l1 = (43 : Int32)
  · replace h := (if_pos sdX8_begun_1_1).symm.trans h
    refine w_look (tgt := 68) G dX8_begun_1 (by decide) (by rw [sdX8_begun_1_1] <;> rfl) (by decide) ?_
    refine w_aload_n (pc2 := 69) G 0 rfl dX8_begun_68 rfl rfl ?_
    refine w_iconst (pc2 := 70) G dX8_begun_69 k_iconst_0 rfl ?_
    refine w_iconst (pc2 := 71) G dX8_begun_70 k_iconst_2 rfl ?_
    obtain ⟨x2, H_x2, h⟩ := bs h
    refine w_cV0 (pc2 := 74) (ws2 := (wX8 E a o c_seed c_is c_sightOne c_sightOther c_sights c_pad c_padMany x2.2 c_which c_key c_other c_acts c_order c_digest c_tall c_had c_badAct c_badWhy c_alikeAct c_alikeTwo c_work c_isWorked c_trees c_from c_upTo c_shape c_kept c_isKept c_keptAt c_isWriting)) (As := [.int (0 : Int32), .int (2 : Int32)]) (rest := []) G koX8_121 (r_X8_deed H_x2) (Nat.le_of_ble_eq_true rfl) 8 rfl rfl rfl rfl (Nat.le_of_ble_eq_true rfl) ⟨Nat.zero_le _, Nat.zero_le _⟩ dX8_begun_71 rfl rfl ?_
    cases h
    exact w_iret G hQ rfl ⟨rfl, rfl⟩ dX8_begun_74
  replace h := (if_neg sdX8_begun_1_1).symm.trans h
  by_cases sdX8_begun_1_2 : l1 = (45 : Int32)
  · replace h := (if_pos sdX8_begun_1_2).symm.trans h
    refine w_look (tgt := 75) G dX8_begun_1 (by decide) (by rw [sdX8_begun_1_2] <;> rfl) (by decide) ?_
    refine w_aload_n (pc2 := 76) G 0 rfl dX8_begun_75 rfl rfl ?_
    refine w_iconst (pc2 := 77) G dX8_begun_76 k_iconst_1 rfl ?_
    refine w_iconst (pc2 := 78) G dX8_begun_77 k_iconst_2 rfl ?_
    obtain ⟨x3, H_x3, h⟩ := bs h
    refine w_cV0 (pc2 := 81) (ws2 := (wX8 E a o c_seed c_is c_sightOne c_sightOther c_sights c_pad c_padMany x3.2 c_which c_key c_other c_acts c_order c_digest c_tall c_had c_badAct c_badWhy c_alikeAct c_alikeTwo c_work c_isWorked c_trees c_from c_upTo c_shape c_kept c_isKept c_keptAt c_isWriting)) (As := [.int (1 : Int32), .int (2 : Int32)]) (rest := []) G koX8_121 (r_X8_deed H_x3) (Nat.le_of_ble_eq_true rfl) 8 rfl rfl rfl rfl (Nat.le_of_ble_eq_true rfl) ⟨Nat.zero_le _, Nat.zero_le _⟩ dX8_begun_78 rfl rfl ?_
    cases h
    exact w_iret G hQ rfl ⟨rfl, rfl⟩ dX8_begun_81
  replace h := (if_neg sdX8_begun_1_2).symm.trans h
  by_cases sdX8_begun_1_3 : l1 = (47 : Int32)
  · replace h := (if_pos sdX8_begun_1_3).symm.trans h
    refine w_look (tgt := 82) G dX8_begun_1 (by decide) (by rw [sdX8_begun_1_3] <;> rfl) (by decide) ?_
    refine w_aload_n (pc2 := 83) G 0 rfl dX8_begun_82 rfl rfl ?_
    refine w_iconst (pc2 := 84) G dX8_begun_83 k_iconst_2 rfl ?_
    refine w_iconst (pc2 := 85) G dX8_begun_84 k_iconst_2 rfl ?_
    obtain ⟨x4, H_x4, h⟩ := bs h
    refine w_cV0 (pc2 := 88) (ws2 := (wX8 E a o c_seed c_is c_sightOne c_sightOther c_sights c_pad c_padMany x4.2 c_which c_key c_other c_acts c_order c_digest c_tall c_had c_badAct c_badWhy c_alikeAct c_alikeTwo c_work c_isWorked c_trees c_from c_upTo c_shape c_kept c_isKept c_keptAt c_isWriting)) (As := [.int (2 : Int32), .int (2 : Int32)]) (rest := []) G koX8_121 (r_X8_deed H_x4) (Nat.le_of_ble_eq_true rfl) 8 rfl rfl rfl rfl (Nat.le_of_ble_eq_true rfl) ⟨Nat.zero_le _, Nat.zero_le _⟩ dX8_begun_85 rfl rfl ?_
    cases h
    exact w_iret G hQ rfl ⟨rfl, rfl⟩ dX8_begun_88
  replace h := (if_neg sdX8_begun_1_3).symm.trans h
  by_cases sdX8_begun_1_4 : l1 = (61 : Int32)
  · replace h := (if_pos sdX8_begun_1_4).symm.trans h
    refine w_look (tgt := 96) G dX8_begun_1 (by decide) (by rw [sdX8_begun_1_4] <;> rfl) (by decide) ?_
    refine w_aload_n (pc2 := 97) G 0 rfl dX8_begun_96 rfl rfl ?_
    refine w_iconst (pc2 := 98) G dX8_begun_97 k_iconst_4 rfl ?_
    refine w_iconst (pc2 := 99) G dX8_begun_98 k_iconst_4 rfl ?_
    obtain ⟨x5, H_x5, h⟩ := bs h
    refine w_cV0 (pc2 := 102) (ws2 := (wX8 E a o c_seed c_is c_sightOne c_sightOther c_sights c_pad c_padMany x5.2 c_which c_key c_other c_acts c_order c_digest c_tall c_had c_badAct c_badWhy c_alikeAct c_alikeTwo c_work c_isWorked c_trees c_from c_upTo c_shape c_kept c_isKept c_keptAt c_isWriting)) (As := [.int (4 : Int32), .int (4 : Int32)]) (rest := []) G koX8_121 (r_X8_deed H_x5) (Nat.le_of_ble_eq_true rfl) 8 rfl rfl rfl rfl (Nat.le_of_ble_eq_true rfl) ⟨Nat.zero_le _, Nat.zero_le _⟩ dX8_begun_99 rfl rfl ?_
    cases h
    exact w_iret G hQ rfl ⟨rfl, rfl⟩ dX8_begun_102
  replace h := (if_neg sdX8_begun_1_4).symm.trans h
  by_cases sdX8_begun_1_5 : l1 = (124 : Int32)
  · replace h := (if_pos sdX8_begun_1_5).symm.trans h
    refine w_look (tgt := 103) G dX8_begun_1 (by decide) (by rw [sdX8_begun_1_5] <;> rfl) (by decide) ?_
    refine w_aload_n (pc2 := 104) G 0 rfl dX8_begun_103 rfl rfl ?_
    refine w_iconst (pc2 := 105) G dX8_begun_104 k_iconst_5 rfl ?_
    refine w_iconst (pc2 := 106) G dX8_begun_105 k_iconst_4 rfl ?_
    obtain ⟨x6, H_x6, h⟩ := bs h
    refine w_cV0 (pc2 := 109) (ws2 := (wX8 E a o c_seed c_is c_sightOne c_sightOther c_sights c_pad c_padMany x6.2 c_which c_key c_other c_acts c_order c_digest c_tall c_had c_badAct c_badWhy c_alikeAct c_alikeTwo c_work c_isWorked c_trees c_from c_upTo c_shape c_kept c_isKept c_keptAt c_isWriting)) (As := [.int (5 : Int32), .int (4 : Int32)]) (rest := []) G koX8_121 (r_X8_deed H_x6) (Nat.le_of_ble_eq_true rfl) 8 rfl rfl rfl rfl (Nat.le_of_ble_eq_true rfl) ⟨Nat.zero_le _, Nat.zero_le _⟩ dX8_begun_106 rfl rfl ?_
    cases h
    exact w_iret G hQ rfl ⟨rfl, rfl⟩ dX8_begun_109
  replace h := (if_neg sdX8_begun_1_5).symm.trans h
  by_cases sdX8_begun_1_6 : l1 = (126 : Int32)
  · replace h := (if_pos sdX8_begun_1_6).symm.trans h
    refine w_look (tgt := 110) G dX8_begun_1 (by decide) (by rw [sdX8_begun_1_6] <;> rfl) (by decide) ?_
    refine w_aload_n (pc2 := 111) G 0 rfl dX8_begun_110 rfl rfl ?_
    refine w_bipush (pc2 := 113) G dX8_begun_111 k_bipush_6 rfl ?_
    refine w_iconst (pc2 := 114) G dX8_begun_113 k_iconst_4 rfl ?_
    obtain ⟨x7, H_x7, h⟩ := bs h
    refine w_cV0 (pc2 := 117) (ws2 := (wX8 E a o c_seed c_is c_sightOne c_sightOther c_sights c_pad c_padMany x7.2 c_which c_key c_other c_acts c_order c_digest c_tall c_had c_badAct c_badWhy c_alikeAct c_alikeTwo c_work c_isWorked c_trees c_from c_upTo c_shape c_kept c_isKept c_keptAt c_isWriting)) (As := [.int (6 : Int32), .int (4 : Int32)]) (rest := []) G koX8_121 (r_X8_deed H_x7) (Nat.le_of_ble_eq_true rfl) 8 rfl rfl rfl rfl (Nat.le_of_ble_eq_true rfl) ⟨Nat.zero_le _, Nat.zero_le _⟩ dX8_begun_114 rfl rfl ?_
    cases h
    exact w_iret G hQ rfl ⟨rfl, rfl⟩ dX8_begun_117
  replace h := (if_neg sdX8_begun_1_6).symm.trans h
  refine w_look (tgt := 118) G dX8_begun_1 (by decide) (look_out (by have e0 := ne_ti sdX8_begun_1_0; have e1 := ne_ti sdX8_begun_1_1; have e2 := ne_ti sdX8_begun_1_2; have e3 := ne_ti sdX8_begun_1_3; have e4 := ne_ti sdX8_begun_1_4; have e5 := ne_ti sdX8_begun_1_5; have e6 := ne_ti sdX8_begun_1_6; simp only [List.all_cons, List.all_nil, Bool.and_true, Bool.and_eq_true, decide_eq_true_eq]; exact ⟨e0, e1, e2, e3, e4, e5, e6⟩)) (by decide) ?_
  refine w_bipush (pc2 := 120) G dX8_begun_118 k_bipush_m6 rfl ?_
  cases h
  exact w_iret G hQ rfl ⟨rfl, rfl⟩ dX8_begun_120

set_option maxHeartbeats 4000000 in
set_option maxRecDepth 100000 in
theorem r_X8_figure {l : Launch} {E : EV} {a : Nat → Nat} {o : Nat} {c_seed : Int32} {c_is c_sightOne c_sightOther : Nat → Int32} {c_sights : Int32} {c_pad : Nat → Int32} {c_padMany : Int32} {c_act c_which c_key c_other : Nat → Int32} {c_acts : Int32} {c_order : Nat → Int32} {c_digest : Nat → Int64} {c_tall c_had : Nat → Int32} {c_badAct c_badWhy c_alikeAct c_alikeTwo c_work c_isWorked : Int32} {c_trees : Nat → Int64} {c_from c_upTo : Nat → Int32} {c_shape : Nat → Int64} {c_kept c_isKept : Nat → Int32} {c_keptAt c_isWriting : Int32} {l1 : Int32} {l2 : Int32} {R : Int32 × (Nat → Int32) × Int32} (h : f_X8_figure c_act c_key c_acts l1 l2 = some R) : Ret1 l E yX8_figure cX8_figure 4 (some .int) 1 (wX8 E a o c_seed c_is c_sightOne c_sightOther c_sights c_pad c_padMany c_act c_which c_key c_other c_acts c_order c_digest c_tall c_had c_badAct c_badWhy c_alikeAct c_alikeTwo c_work c_isWorked c_trees c_from c_upTo c_shape c_kept c_isKept c_keptAt c_isWriting) [.ref (a o), .int l1, .int l2] (some (.int R.1)) (wX8 E a o c_seed c_is c_sightOne c_sightOther c_sights c_pad c_padMany c_act c_which R.2.1 c_other R.2.2 c_order c_digest c_tall c_had c_badAct c_badWhy c_alikeAct c_alikeTwo c_work c_isWorked c_trees c_from c_upTo c_shape c_kept c_isKept c_keptAt c_isWriting) := by
  refine Ret.intro (lv := [(0, .ref (a o)), (1, .int l1), (2, .int l2)]) (by decide) (Nat.le_of_ble_eq_true rfl) rfl ?_
  intro g hgl G hQ
  subst hgl
  rw [f_X8_figure] at h
  refine w_aload_n (pc2 := 1) G 0 rfl dX8_figure_0 rfl rfl ?_
  refine w_get (pc2 := 4) G foX8_28 0 rfl rfl dX8_figure_1 rfl ?_
  refine w_aload_n (pc2 := 5) G 0 rfl dX8_figure_4 rfl rfl ?_
  refine w_get (pc2 := 8) G foX8_110 0 rfl rfl dX8_figure_5 rfl ?_
  refine w_bipush (pc2 := 10) G dX8_figure_8 k_bipush_10 rfl ?_
  refine w_aload_n (pc2 := 11) G 0 rfl dX8_figure_10 rfl rfl ?_
  refine w_get (pc2 := 14) G foX8_28 0 rfl rfl dX8_figure_11 rfl ?_
  refine w_aload_n (pc2 := 15) G 0 rfl dX8_figure_14 rfl rfl ?_
  refine w_get (pc2 := 18) G foX8_110 0 rfl rfl dX8_figure_15 rfl ?_
  obtain ⟨v1, H_v1, h⟩ := bs h
  refine w_ialdo (pc2 := 19) G 7 rfl H_v1 dX8_figure_18 rfl ?_
  refine w_imul (pc2 := 20) G dX8_figure_19 rfl ?_
  refine w_iload_n (pc2 := 21) G 1 rfl dX8_figure_20 rfl rfl ?_
  refine w_iadd (pc2 := 22) G dX8_figure_21 rfl ?_
  refine w_bipush (pc2 := 24) G dX8_figure_22 k_bipush_48 rfl ?_
  refine w_isub (pc2 := 25) G dX8_figure_24 rfl ?_
  obtain ⟨f2, H_f2, h⟩ := bs h
  refine w_iasto (pc2 := 26) (ws2 := (wX8 E a o c_seed c_is c_sightOne c_sightOther c_sights c_pad c_padMany c_act c_which f2 c_other c_acts c_order c_digest c_tall c_had c_badAct c_badWhy c_alikeAct c_alikeTwo c_work c_isWorked c_trees c_from c_upTo c_shape c_kept c_isKept c_keptAt c_isWriting)) G 7 rfl H_f2 rfl dX8_figure_25 rfl ?_
  refine w_iload_n (pc2 := 27) G 1 rfl dX8_figure_26 rfl rfl ?_
  refine w_i2l (pc2 := 28) G dX8_figure_27 rfl ?_
  refine w_ldc2 (pc2 := 31) G wd_215 dX8_figure_28 rfl ?_
  refine w_iload_n (pc2 := 32) G 2 rfl dX8_figure_31 rfl rfl ?_
  refine w_iconst (pc2 := 33) G dX8_figure_32 k_iconst_2 rfl ?_
  obtain ⟨x3, h0, h⟩ := bs h
  have K_x3 : WW g E 4 0 0 (wX8 E a o c_seed c_is c_sightOne c_sightOther c_sights c_pad c_padMany c_act c_which f2 c_other c_acts c_order c_digest c_tall c_had c_badAct c_badWhy c_alikeAct c_alikeTwo c_work c_isWorked c_trees c_from c_upTo c_shape c_kept c_isKept c_keptAt c_isWriting) [(0, .ref (a o)), (2, .int l2)] 45 [.long x3, .long (48 : Int64), .long l1.toInt64] := by
    clear h0
    obtain ⟨x4, H_x4, h⟩ := bs h
    refine w_cS0 (pc2 := 48) (As := [.long l1.toInt64, .long (48 : Int64), .long x3]) (rest := []) G koX8_68 (r_X8_in H_x4) (Nat.le_of_ble_eq_true rfl) rfl rfl (Nat.le_of_ble_eq_true rfl) ⟨Nat.zero_le _, Nat.zero_le _⟩ dX8_figure_45 rfl rfl ?_
    refine w_istore_n (pc2 := 49) (lv2 := [(3, .int x4), (0, .ref (a o)), (2, .int l2)]) G dX8_figure_48 rfl (Nat.le_of_ble_eq_true rfl) rfl rfl ?_
    refine w_iload_n (pc2 := 50) G 0 rfl dX8_figure_49 rfl rfl ?_
    refine w_if_ne (tgt := 58) (pc2 := 53) G dX8_figure_50 (by decide) rfl (fun cc => ?_) (fun cc => ?_)
    · replace h := (if_neg cc).symm.trans h
      refine w_iload_n (pc2 := 59) G 2 rfl dX8_figure_58 rfl rfl ?_
      refine w_iconst (pc2 := 60) G dX8_figure_59 k_iconst_2 rfl ?_
      refine w_icmp_ne (tgt := 67) (pc2 := 63) G dX8_figure_60 (by decide) rfl (fun cc => ?_) (fun cc => ?_)
      · replace h := (if_neg cc).symm.trans h
        refine w_aload_n (pc2 := 68) G 1 rfl dX8_figure_67 rfl rfl ?_
        refine w_get (pc2 := 71) G foX8_22 0 rfl rfl dX8_figure_68 rfl ?_
        refine w_aload_n (pc2 := 72) G 1 rfl dX8_figure_71 rfl rfl ?_
        refine w_get (pc2 := 75) G foX8_110 0 rfl rfl dX8_figure_72 rfl ?_
        obtain ⟨v5, H_v5, h⟩ := bs h
        refine w_ialdo (pc2 := 76) G 5 rfl H_v5 dX8_figure_75 rfl ?_
        refine w_iconst (pc2 := 77) G dX8_figure_76 k_iconst_2 rfl ?_
        refine w_icmp_ne (tgt := 84) (pc2 := 80) G dX8_figure_77 (by decide) rfl (fun cc => ?_) (fun cc => ?_)
        · replace h := (if_neg cc).symm.trans h
          refine w_aload_n (pc2 := 85) G 1 rfl dX8_figure_84 rfl rfl ?_
          obtain ⟨x6, H_x6, h⟩ := bs h
          refine w_cV0 (pc2 := 88) (ws2 := (wX8 E a o c_seed c_is c_sightOne c_sightOther c_sights c_pad c_padMany c_act c_which f2 c_other x6.2 c_order c_digest c_tall c_had c_badAct c_badWhy c_alikeAct c_alikeTwo c_work c_isWorked c_trees c_from c_upTo c_shape c_kept c_isKept c_keptAt c_isWriting)) (As := []) (rest := []) G koX8_117 (r_X8_ends H_x6) (Nat.le_of_ble_eq_true rfl) 8 rfl rfl rfl rfl (Nat.le_of_ble_eq_true rfl) ⟨Nat.zero_le _, Nat.zero_le _⟩ dX8_figure_85 rfl rfl ?_
          cases h
          exact w_iret G hQ rfl ⟨rfl, rfl⟩ dX8_figure_88
        · replace h := (if_pos cc).symm.trans h
          refine w_iconst (pc2 := 81) G dX8_figure_80 k_iconst_4 rfl ?_
          refine w_goto (tgt := 88) G dX8_figure_81 (by decide) ?_
          cases h
          exact w_iret G hQ rfl ⟨rfl, rfl⟩ dX8_figure_88
      · replace h := (if_pos cc).symm.trans h
        refine w_iconst (pc2 := 64) G dX8_figure_63 k_iconst_3 rfl ?_
        refine w_goto (tgt := 88) G dX8_figure_64 (by decide) ?_
        cases h
        exact w_iret G hQ rfl ⟨rfl, rfl⟩ dX8_figure_88
    · replace h := (if_pos cc).symm.trans h
      refine w_bipush (pc2 := 55) G dX8_figure_53 k_bipush_m6 rfl ?_
      refine w_goto (tgt := 88) G dX8_figure_55 (by decide) ?_
      cases h
      exact w_iret G hQ rfl ⟨rfl, rfl⟩ dX8_figure_88
  replace h := h0
  clear h0
  refine w_icmp_ne (tgt := 42) (pc2 := 36) G dX8_figure_33 (by decide) rfl (fun cc => ?_) (fun cc => ?_)
  · replace h := (if_neg cc).symm.trans h
    refine w_ldc2 (pc2 := 45) G wd_216 dX8_figure_42 rfl ?_
    cases h
    exact w_lv [0, 2] rfl K_x3
  · replace h := (if_pos cc).symm.trans h
    refine w_ldc2 (pc2 := 39) G wd_217 dX8_figure_36 rfl ?_
    refine w_goto (tgt := 45) G dX8_figure_39 (by decide) ?_
    cases h
    exact w_lv [0, 2] rfl K_x3

set_option maxHeartbeats 4000000 in
set_option maxRecDepth 100000 in
theorem r_X8_another {l : Launch} {E : EV} {a : Nat → Nat} {o : Nat} {c_seed : Int32} {c_is c_sightOne c_sightOther : Nat → Int32} {c_sights : Int32} {c_pad : Nat → Int32} {c_padMany : Int32} {c_act c_which c_key c_other : Nat → Int32} {c_acts : Int32} {c_order : Nat → Int32} {c_digest : Nat → Int64} {c_tall c_had : Nat → Int32} {c_badAct c_badWhy c_alikeAct c_alikeTwo c_work c_isWorked : Int32} {c_trees : Nat → Int64} {c_from c_upTo : Nat → Int32} {c_shape : Nat → Int64} {c_kept c_isKept : Nat → Int32} {c_keptAt c_isWriting : Int32} {l1 : Int32} {R : Int32 × (Nat → Int32) × Int32} (h : f_X8_another c_other c_acts l1 = some R) : Ret1 l E yX8_another cX8_another 2 (some .int) 1 (wX8 E a o c_seed c_is c_sightOne c_sightOther c_sights c_pad c_padMany c_act c_which c_key c_other c_acts c_order c_digest c_tall c_had c_badAct c_badWhy c_alikeAct c_alikeTwo c_work c_isWorked c_trees c_from c_upTo c_shape c_kept c_isKept c_keptAt c_isWriting) [.ref (a o), .int l1] (some (.int R.1)) (wX8 E a o c_seed c_is c_sightOne c_sightOther c_sights c_pad c_padMany c_act c_which c_key R.2.1 R.2.2 c_order c_digest c_tall c_had c_badAct c_badWhy c_alikeAct c_alikeTwo c_work c_isWorked c_trees c_from c_upTo c_shape c_kept c_isKept c_keptAt c_isWriting) := by
  refine Ret.intro (lv := [(0, .ref (a o)), (1, .int l1)]) (by decide) (Nat.le_of_ble_eq_true rfl) rfl ?_
  intro g hgl G hQ
  subst hgl
  rw [f_X8_another] at h
  refine w_aload_n (pc2 := 1) G 0 rfl dX8_another_0 rfl rfl ?_
  refine w_get (pc2 := 4) G foX8_31 0 rfl rfl dX8_another_1 rfl ?_
  refine w_aload_n (pc2 := 5) G 0 rfl dX8_another_4 rfl rfl ?_
  refine w_get (pc2 := 8) G foX8_110 0 rfl rfl dX8_another_5 rfl ?_
  refine w_iload_n (pc2 := 9) G 1 rfl dX8_another_8 rfl rfl ?_
  refine w_bipush (pc2 := 11) G dX8_another_9 k_bipush_65 rfl ?_
  refine w_isub (pc2 := 12) G dX8_another_11 rfl ?_
  obtain ⟨f1, H_f1, h⟩ := bs h
  refine w_iasto (pc2 := 13) (ws2 := (wX8 E a o c_seed c_is c_sightOne c_sightOther c_sights c_pad c_padMany c_act c_which c_key f1 c_acts c_order c_digest c_tall c_had c_badAct c_badWhy c_alikeAct c_alikeTwo c_work c_isWorked c_trees c_from c_upTo c_shape c_kept c_isKept c_keptAt c_isWriting)) G 8 rfl H_f1 rfl dX8_another_12 rfl ?_
  refine w_iload_n (pc2 := 14) G 1 rfl dX8_another_13 rfl rfl ?_
  refine w_i2l (pc2 := 15) G dX8_another_14 rfl ?_
  refine w_ldc2 (pc2 := 18) G wd_207 dX8_another_15 rfl ?_
  refine w_ldc2 (pc2 := 21) G wd_208 dX8_another_18 rfl ?_
  obtain ⟨x2, H_x2, h⟩ := bs h
  refine w_cS0 (pc2 := 24) (As := [.long l1.toInt64, .long (65 : Int64), .long (68 : Int64)]) (rest := []) G koX8_68 (r_X8_in H_x2) (Nat.le_of_ble_eq_true rfl) rfl rfl (Nat.le_of_ble_eq_true rfl) ⟨Nat.zero_le _, Nat.zero_le _⟩ dX8_another_21 rfl rfl ?_
  refine w_if_eq (tgt := 34) (pc2 := 27) G dX8_another_24 (by decide) rfl (fun cc => ?_) (fun cc => ?_)
  · replace h := (if_pos cc).symm.trans h
    refine w_bipush (pc2 := 36) G dX8_another_34 k_bipush_m6 rfl ?_
    cases h
    exact w_iret G hQ rfl ⟨rfl, rfl⟩ dX8_another_36
  · replace h := (if_neg cc).symm.trans h
    refine w_aload_n (pc2 := 28) G 0 rfl dX8_another_27 rfl rfl ?_
    obtain ⟨x3, H_x3, h⟩ := bs h
    refine w_cV0 (pc2 := 31) (ws2 := (wX8 E a o c_seed c_is c_sightOne c_sightOther c_sights c_pad c_padMany c_act c_which c_key f1 x3.2 c_order c_digest c_tall c_had c_badAct c_badWhy c_alikeAct c_alikeTwo c_work c_isWorked c_trees c_from c_upTo c_shape c_kept c_isKept c_keptAt c_isWriting)) (As := []) (rest := []) G koX8_117 (r_X8_ends H_x3) (Nat.le_of_ble_eq_true rfl) 8 rfl rfl rfl rfl (Nat.le_of_ble_eq_true rfl) ⟨Nat.zero_le _, Nat.zero_le _⟩ dX8_another_28 rfl rfl ?_
    refine w_goto (tgt := 36) G dX8_another_31 (by decide) ?_
    cases h
    exact w_iret G hQ rfl ⟨rfl, rfl⟩ dX8_another_36

set_option maxHeartbeats 4000000 in
set_option maxRecDepth 100000 in
theorem r_X8_readOn {l : Launch} {E : EV} {a : Nat → Nat} {o : Nat} {c_seed : Int32} {c_is c_sightOne c_sightOther : Nat → Int32} {c_sights : Int32} {c_pad : Nat → Int32} {c_padMany : Int32} {c_act c_which c_key c_other : Nat → Int32} {c_acts : Int32} {c_order : Nat → Int32} {c_digest : Nat → Int64} {c_tall c_had : Nat → Int32} {c_badAct c_badWhy c_alikeAct c_alikeTwo c_work c_isWorked : Int32} {c_trees : Nat → Int64} {c_from c_upTo : Nat → Int32} {c_shape : Nat → Int64} {c_kept c_isKept : Nat → Int32} {c_keptAt c_isWriting : Int32} {l1 : Int32} {l2 : Int32} {R : Int32 × (Nat → Int32) × (Nat → Int32) × (Nat → Int32) × (Nat → Int32) × Int32} (h : f_X8_readOn c_act c_which c_key c_other c_acts l1 l2 = some R) : Ret1 l E yX8_readOn cX8_readOn 3 (some .int) 2 (wX8 E a o c_seed c_is c_sightOne c_sightOther c_sights c_pad c_padMany c_act c_which c_key c_other c_acts c_order c_digest c_tall c_had c_badAct c_badWhy c_alikeAct c_alikeTwo c_work c_isWorked c_trees c_from c_upTo c_shape c_kept c_isKept c_keptAt c_isWriting) [.ref (a o), .int l1, .int l2] (some (.int R.1)) (wX8 E a o c_seed c_is c_sightOne c_sightOther c_sights c_pad c_padMany R.2.1 R.2.2.1 R.2.2.2.1 R.2.2.2.2.1 R.2.2.2.2.2 c_order c_digest c_tall c_had c_badAct c_badWhy c_alikeAct c_alikeTwo c_work c_isWorked c_trees c_from c_upTo c_shape c_kept c_isKept c_keptAt c_isWriting) := by
  refine Ret.intro (lv := [(0, .ref (a o)), (1, .int l1), (2, .int l2)]) (by decide) (Nat.le_of_ble_eq_true rfl) rfl ?_
  intro g hgl G hQ
  subst hgl
  rw [f_X8_readOn] at h
  refine w_iload_n (pc2 := 1) G 1 rfl dX8_readOn_0 rfl rfl ?_
  refine w_if_ne (tgt := 12) (pc2 := 4) G dX8_readOn_1 (by decide) rfl (fun cc => ?_) (fun cc => ?_)
  · replace h := (if_neg cc).symm.trans h
    refine w_iload_n (pc2 := 13) G 1 rfl dX8_readOn_12 rfl rfl ?_
    refine w_iconst (pc2 := 14) G dX8_readOn_13 k_iconst_1 rfl ?_
    refine w_icmp_ne (tgt := 25) (pc2 := 17) G dX8_readOn_14 (by decide) rfl (fun cc => ?_) (fun cc => ?_)
    · replace h := (if_neg cc).symm.trans h
      refine w_iload_n (pc2 := 26) G 1 rfl dX8_readOn_25 rfl rfl ?_
      refine w_iconst (pc2 := 27) G dX8_readOn_26 k_iconst_4 rfl ?_
      refine w_icmp_ne (tgt := 38) (pc2 := 30) G dX8_readOn_27 (by decide) rfl (fun cc => ?_) (fun cc => ?_)
      · replace h := (if_neg cc).symm.trans h
        refine w_aload_n (pc2 := 39) G 0 rfl dX8_readOn_38 rfl rfl ?_
        refine w_iload_n (pc2 := 40) G 2 rfl dX8_readOn_39 rfl rfl ?_
        refine w_iload_n (pc2 := 41) G 1 rfl dX8_readOn_40 rfl rfl ?_
        obtain ⟨x1, H_x1, h⟩ := bs h
        refine w_cV0 (pc2 := 44) (ws2 := (wX8 E a o c_seed c_is c_sightOne c_sightOther c_sights c_pad c_padMany c_act c_which x1.2.1 c_other x1.2.2 c_order c_digest c_tall c_had c_badAct c_badWhy c_alikeAct c_alikeTwo c_work c_isWorked c_trees c_from c_upTo c_shape c_kept c_isKept c_keptAt c_isWriting)) (As := [.int l2, .int l1]) (rest := []) G koX8_139 (r_X8_figure H_x1) (Nat.le_of_ble_eq_true rfl) 8 rfl rfl rfl rfl (Nat.le_of_ble_eq_true rfl) ⟨Nat.zero_le _, Nat.zero_le _⟩ dX8_readOn_41 rfl rfl ?_
        cases h
        exact w_iret G hQ rfl ⟨rfl, rfl⟩ dX8_readOn_44
      · replace h := (if_pos cc).symm.trans h
        refine w_aload_n (pc2 := 31) G 0 rfl dX8_readOn_30 rfl rfl ?_
        refine w_iload_n (pc2 := 32) G 2 rfl dX8_readOn_31 rfl rfl ?_
        obtain ⟨x2, H_x2, h⟩ := bs h
        refine w_cV0 (pc2 := 35) (ws2 := (wX8 E a o c_seed c_is c_sightOne c_sightOther c_sights c_pad c_padMany c_act c_which c_key x2.2.1 x2.2.2 c_order c_digest c_tall c_had c_badAct c_badWhy c_alikeAct c_alikeTwo c_work c_isWorked c_trees c_from c_upTo c_shape c_kept c_isKept c_keptAt c_isWriting)) (As := [.int l2]) (rest := []) G koX8_136 (r_X8_another H_x2) (Nat.le_of_ble_eq_true rfl) 8 rfl rfl rfl rfl (Nat.le_of_ble_eq_true rfl) ⟨Nat.zero_le _, Nat.zero_le _⟩ dX8_readOn_32 rfl rfl ?_
        refine w_goto (tgt := 44) G dX8_readOn_35 (by decide) ?_
        cases h
        exact w_iret G hQ rfl ⟨rfl, rfl⟩ dX8_readOn_44
    · replace h := (if_pos cc).symm.trans h
      refine w_aload_n (pc2 := 18) G 0 rfl dX8_readOn_17 rfl rfl ?_
      refine w_iload_n (pc2 := 19) G 2 rfl dX8_readOn_18 rfl rfl ?_
      obtain ⟨x3, H_x3, h⟩ := bs h
      refine w_cV0 (pc2 := 22) (ws2 := (wX8 E a o c_seed c_is c_sightOne c_sightOther c_sights c_pad c_padMany x3.2 c_which c_key c_other c_acts c_order c_digest c_tall c_had c_badAct c_badWhy c_alikeAct c_alikeTwo c_work c_isWorked c_trees c_from c_upTo c_shape c_kept c_isKept c_keptAt c_isWriting)) (As := [.int l2]) (rest := []) G koX8_133 (r_X8_begun H_x3) (Nat.le_of_ble_eq_true rfl) 8 rfl rfl rfl rfl (Nat.le_of_ble_eq_true rfl) ⟨Nat.zero_le _, Nat.zero_le _⟩ dX8_readOn_19 rfl rfl ?_
      refine w_goto (tgt := 44) G dX8_readOn_22 (by decide) ?_
      cases h
      exact w_iret G hQ rfl ⟨rfl, rfl⟩ dX8_readOn_44
  · replace h := (if_pos cc).symm.trans h
    refine w_aload_n (pc2 := 5) G 0 rfl dX8_readOn_4 rfl rfl ?_
    refine w_iload_n (pc2 := 6) G 2 rfl dX8_readOn_5 rfl rfl ?_
    obtain ⟨x4, H_x4, h⟩ := bs h
    refine w_cV0 (pc2 := 9) (ws2 := (wX8 E a o c_seed c_is c_sightOne c_sightOther c_sights c_pad c_padMany x4.2.1 x4.2.2.1 x4.2.2.2.1 x4.2.2.2.2.1 x4.2.2.2.2.2 c_order c_digest c_tall c_had c_badAct c_badWhy c_alikeAct c_alikeTwo c_work c_isWorked c_trees c_from c_upTo c_shape c_kept c_isKept c_keptAt c_isWriting)) (As := [.int l2]) (rest := []) G koX8_130 (r_X8_begin H_x4) (Nat.le_of_ble_eq_true rfl) 8 rfl rfl rfl rfl (Nat.le_of_ble_eq_true rfl) ⟨Nat.zero_le _, Nat.zero_le _⟩ dX8_readOn_6 rfl rfl ?_
    refine w_goto (tgt := 44) G dX8_readOn_9 (by decide) ?_
    cases h
    exact w_iret G hQ rfl ⟨rfl, rfl⟩ dX8_readOn_44

set_option maxHeartbeats 4000000 in
set_option maxRecDepth 100000 in
theorem lp_X8_fault_9 {g : CX} {E : EV} {a : Nat → Nat} {o : Nat} {c_seed : Int32} {c_is c_sightOne c_sightOther : Nat → Int32} {c_sights : Int32} {c_order : Nat → Int32} {c_digest : Nat → Int64} {c_tall c_had : Nat → Int32} {c_badAct c_badWhy c_alikeAct c_alikeTwo c_work c_isWorked : Int32} {c_trees : Nat → Int64} {c_from c_upTo : Nat → Int32} {c_shape : Nat → Int64} {c_kept c_isKept : Nat → Int32} {c_keptAt c_isWriting : Int32}  (G : GG g E RX8 cX8_fault 3 (some .int) 3 0 0) {R : Int32 × (Nat → Int32) × (Nat → Int32) × (Nat → Int32) × (Nat → Int32) × Int32} {c_pad : Nat → Int32} {c_padMany : Int32} (hQ : RQ g E 0 0 (fun v2 w2 => v2 = (some (.int R.1)) ∧ w2 = (wX8 E a o c_seed c_is c_sightOne c_sightOther c_sights c_pad c_padMany R.2.1 R.2.2.1 R.2.2.2.1 R.2.2.2.2.1 R.2.2.2.2.2 c_order c_digest c_tall c_had c_badAct c_badWhy c_alikeAct c_alikeTwo c_work c_isWorked c_trees c_from c_upTo c_shape c_kept c_isKept c_keptAt c_isWriting))) : ∀ (n : Nat) (c_act : Nat → Int32) (c_which : Nat → Int32) (c_key : Nat → Int32) (c_other : Nat → Int32) (c_acts : Int32) (l1 : Int32) (l2 : Int32), L_X8_fault_9 n c_pad c_padMany c_act c_which c_key c_other c_acts l1 l2 = some R → WW g E 3 0 0 (wX8 E a o c_seed c_is c_sightOne c_sightOther c_sights c_pad c_padMany c_act c_which c_key c_other c_acts c_order c_digest c_tall c_had c_badAct c_badWhy c_alikeAct c_alikeTwo c_work c_isWorked c_trees c_from c_upTo c_shape c_kept c_isKept c_keptAt c_isWriting) [(0, .ref (a o)), (1, .int l1), (2, .int l2)] 9 [] := by
  intro n
  induction n with
  | zero => intro c_act c_which c_key c_other c_acts l1 l2 h; exact no_some h
  | succ n ih =>
    intro c_act c_which c_key c_other c_acts l1 l2 h
    rw [L_X8_fault_9] at h
    refine w_iload_n (pc2 := 10) G 2 rfl dX8_fault_9 rfl rfl ?_
    refine w_aload_n (pc2 := 11) G 0 rfl dX8_fault_10 rfl rfl ?_
    refine w_get (pc2 := 14) G foX8_107 0 rfl rfl dX8_fault_11 rfl ?_
    refine w_icmp_ge (tgt := 41) (pc2 := 17) G dX8_fault_14 (by decide) rfl (fun cc => ?_) (fun cc => ?_)
    · replace h := (if_pos cc).symm.trans h
      refine w_iload_n (pc2 := 42) G 1 rfl dX8_fault_41 rfl rfl ?_
      refine w_if_ne (tgt := 50) (pc2 := 45) G dX8_fault_42 (by decide) rfl (fun cc => ?_) (fun cc => ?_)
      · replace h := (if_neg cc).symm.trans h
        refine w_aload_n (pc2 := 51) G 0 rfl dX8_fault_50 rfl rfl ?_
        refine w_get (pc2 := 54) G foX8_107 0 rfl rfl dX8_fault_51 rfl ?_
        cases h
        exact w_iret G hQ rfl ⟨rfl, rfl⟩ dX8_fault_54
      · replace h := (if_pos cc).symm.trans h
        refine w_bipush (pc2 := 47) G dX8_fault_45 k_bipush_m6 rfl ?_
        refine w_goto (tgt := 54) G dX8_fault_47 (by decide) ?_
        cases h
        exact w_iret G hQ rfl ⟨rfl, rfl⟩ dX8_fault_54
    · replace h := (if_neg cc).symm.trans h
      refine w_aload_n (pc2 := 18) G 0 rfl dX8_fault_17 rfl rfl ?_
      refine w_iload_n (pc2 := 19) G 1 rfl dX8_fault_18 rfl rfl ?_
      refine w_aload_n (pc2 := 20) G 0 rfl dX8_fault_19 rfl rfl ?_
      refine w_get (pc2 := 23) G foX8_19 0 rfl rfl dX8_fault_20 rfl ?_
      refine w_iload_n (pc2 := 24) G 2 rfl dX8_fault_23 rfl rfl ?_
      obtain ⟨v1, H_v1, h⟩ := bs h
      refine w_ialdo (pc2 := 25) G 4 rfl H_v1 dX8_fault_24 rfl ?_
      obtain ⟨x2, H_x2, h⟩ := bs h
      refine w_cV0 (pc2 := 28) (ws2 := (wX8 E a o c_seed c_is c_sightOne c_sightOther c_sights c_pad c_padMany x2.2.1 x2.2.2.1 x2.2.2.2.1 x2.2.2.2.2.1 x2.2.2.2.2.2 c_order c_digest c_tall c_had c_badAct c_badWhy c_alikeAct c_alikeTwo c_work c_isWorked c_trees c_from c_upTo c_shape c_kept c_isKept c_keptAt c_isWriting)) (As := [.int l1, .int v1]) (rest := []) G koX8_142 (r_X8_readOn H_x2) (Nat.le_of_ble_eq_true rfl) 8 rfl rfl rfl rfl (Nat.le_of_ble_eq_true rfl) ⟨Nat.zero_le _, Nat.zero_le _⟩ dX8_fault_25 rfl rfl ?_
      refine w_istore_n (pc2 := 29) (lv2 := [(1, .int x2.1), (0, .ref (a o)), (2, .int l2)]) G dX8_fault_28 rfl (Nat.le_of_ble_eq_true rfl) rfl rfl ?_
      refine w_iload_n (pc2 := 30) G 0 rfl dX8_fault_29 rfl rfl ?_
      refine w_if_ge (tgt := 35) (pc2 := 33) G dX8_fault_30 (by decide) rfl (fun cc => ?_) (fun cc => ?_)
      · replace h := (if_pos cc).symm.trans h
        refine w_iinc (pc2 := 38) (lv2 := [(2, .int (l2 + (1 : Int32))), (1, .int x2.1), (0, .ref (a o))]) G 2 rfl dX8_fault_35 k_iconst_1 (Nat.le_of_ble_eq_true rfl) rfl rfl ?_
        refine w_goto (tgt := 9) G dX8_fault_38 (by decide) ?_
        exact w_lv [2, 1, 0] rfl (ih _ _ _ _ _ _ _ h )
      · replace h := (if_neg cc).symm.trans h
        refine w_iload_n (pc2 := 34) G 2 rfl dX8_fault_33 rfl rfl ?_
        cases h
        exact w_iret G hQ rfl ⟨rfl, rfl⟩ dX8_fault_34
set_option maxHeartbeats 4000000 in
set_option maxRecDepth 100000 in
theorem r_X8_fault {l : Launch} {E : EV} {a : Nat → Nat} {o : Nat} {c_seed : Int32} {c_is c_sightOne c_sightOther : Nat → Int32} {c_sights : Int32} {c_pad : Nat → Int32} {c_padMany : Int32} {c_act c_which c_key c_other : Nat → Int32} {c_acts : Int32} {c_order : Nat → Int32} {c_digest : Nat → Int64} {c_tall c_had : Nat → Int32} {c_badAct c_badWhy c_alikeAct c_alikeTwo c_work c_isWorked : Int32} {c_trees : Nat → Int64} {c_from c_upTo : Nat → Int32} {c_shape : Nat → Int64} {c_kept c_isKept : Nat → Int32} {c_keptAt c_isWriting : Int32}  {R : Int32 × (Nat → Int32) × (Nat → Int32) × (Nat → Int32) × (Nat → Int32) × Int32} (h : f_X8_fault c_pad c_padMany c_act c_which c_key c_other c_acts = some R) : Ret1 l E yX8_fault cX8_fault 3 (some .int) 3 (wX8 E a o c_seed c_is c_sightOne c_sightOther c_sights c_pad c_padMany c_act c_which c_key c_other c_acts c_order c_digest c_tall c_had c_badAct c_badWhy c_alikeAct c_alikeTwo c_work c_isWorked c_trees c_from c_upTo c_shape c_kept c_isKept c_keptAt c_isWriting) [.ref (a o)] (some (.int R.1)) (wX8 E a o c_seed c_is c_sightOne c_sightOther c_sights c_pad c_padMany R.2.1 R.2.2.1 R.2.2.2.1 R.2.2.2.2.1 R.2.2.2.2.2 c_order c_digest c_tall c_had c_badAct c_badWhy c_alikeAct c_alikeTwo c_work c_isWorked c_trees c_from c_upTo c_shape c_kept c_isKept c_keptAt c_isWriting) := by
  refine Ret.intro (lv := [(0, .ref (a o))]) (by decide) (Nat.le_of_ble_eq_true rfl) rfl ?_
  intro g hgl G hQ
  subst hgl
  rw [f_X8_fault] at h
  refine w_aload_n (pc2 := 1) G 0 rfl dX8_fault_0 rfl rfl ?_
  refine w_iconst (pc2 := 2) G dX8_fault_1 k_iconst_0 rfl ?_
  refine w_put (pc2 := 5) (ws2 := (wX8 E a o c_seed c_is c_sightOne c_sightOther c_sights c_pad c_padMany c_act c_which c_key c_other (0 : Int32) c_order c_digest c_tall c_had c_badAct c_badWhy c_alikeAct c_alikeTwo c_work c_isWorked c_trees c_from c_upTo c_shape c_kept c_isKept c_keptAt c_isWriting)) G foX8_110 tokX8 0 rfl rfl rfl rfl (Nat.le_of_ble_eq_true rfl) rfl dX8_fault_2 rfl ?_
  refine w_iconst (pc2 := 6) G dX8_fault_5 k_iconst_0 rfl ?_
  refine w_istore_n (pc2 := 7) (lv2 := [(1, .int (0 : Int32)), (0, .ref (a o))]) G dX8_fault_6 rfl (Nat.le_of_ble_eq_true rfl) rfl rfl ?_
  refine w_iconst (pc2 := 8) G dX8_fault_7 k_iconst_0 rfl ?_
  refine w_istore_n (pc2 := 9) (lv2 := [(2, .int (0 : Int32)), (1, .int (0 : Int32)), (0, .ref (a o))]) G dX8_fault_8 rfl (Nat.le_of_ble_eq_true rfl) rfl rfl ?_
  exact w_lv [2, 1, 0] rfl (lp_X8_fault_9 G hQ 20000 _ _ _ _ _ _ _ h)

set_option maxHeartbeats 4000000 in
set_option maxRecDepth 100000 in
theorem lp_X8_ofBoth_5 {g : CX} {E : EV} {a : Nat → Nat} {o : Nat} {c_seed : Int32} {c_sightOne c_sightOther : Nat → Int32} {c_sights : Int32} {c_pad : Nat → Int32} {c_padMany : Int32} {c_act c_which c_key c_other : Nat → Int32} {c_acts : Int32} {c_order : Nat → Int32} {c_digest : Nat → Int64} {c_tall c_had : Nat → Int32} {c_badAct c_badWhy c_alikeAct c_alikeTwo c_work c_isWorked : Int32} {c_trees : Nat → Int64} {c_from c_upTo : Nat → Int32} {c_shape : Nat → Int64} {c_kept c_isKept : Nat → Int32} {c_keptAt c_isWriting : Int32}  (G : GG g E RX8 cX8_ofBoth 5 (some .int) 1 0 0) : ∀ (n : Nat) (c_is : Nat → Int32) (l1 : Int32) (l2 : Int32) (l3 : Int32) (l4 : Int32) (R : Int32), L_X8_ofBoth_5 n c_is l1 l2 l3 l4 = some R → WW g E 5 0 0 (wX8 E a o c_seed c_is c_sightOne c_sightOther c_sights c_pad c_padMany c_act c_which c_key c_other c_acts c_order c_digest c_tall c_had c_badAct c_badWhy c_alikeAct c_alikeTwo c_work c_isWorked c_trees c_from c_upTo c_shape c_kept c_isKept c_keptAt c_isWriting) [(3, .int R)] 46 [] → WW g E 5 0 0 (wX8 E a o c_seed c_is c_sightOne c_sightOther c_sights c_pad c_padMany c_act c_which c_key c_other c_acts c_order c_digest c_tall c_had c_badAct c_badWhy c_alikeAct c_alikeTwo c_work c_isWorked c_trees c_from c_upTo c_shape c_kept c_isKept c_keptAt c_isWriting) [(0, .ref (a o)), (1, .int l1), (2, .int l2), (3, .int l3), (4, .int l4)] 5 [] := by
  intro n
  induction n with
  | zero => intro c_is l1 l2 l3 l4 R h; exact no_some h
  | succ n ih =>
    intro c_is l1 l2 l3 l4 R h K
    rw [L_X8_ofBoth_5] at h
    refine w_iload (pc2 := 7) G 4 rfl dX8_ofBoth_5 rfl ?_
    refine w_bipush (pc2 := 9) G dX8_ofBoth_7 k_bipush_50 rfl ?_
    refine w_icmp_ge (tgt := 46) (pc2 := 12) G dX8_ofBoth_9 (by decide) rfl (fun cc => ?_) (fun cc => ?_)
    · replace h := (if_pos cc).symm.trans h
      cases h
      exact w_lv [3] rfl K
    · replace h := (if_neg cc).symm.trans h
      refine w_iload_n (pc2 := 13) G 3 rfl dX8_ofBoth_12 rfl rfl ?_
      refine w_aload_n (pc2 := 14) G 0 rfl dX8_ofBoth_13 rfl rfl ?_
      refine w_iload_n (pc2 := 15) G 1 rfl dX8_ofBoth_14 rfl rfl ?_
      refine w_iload (pc2 := 17) G 4 rfl dX8_ofBoth_15 rfl ?_
      obtain ⟨x1, H_x1, h⟩ := bs h
      refine w_cV0 (pc2 := 20) (ws2 := (wX8 E a o c_seed c_is c_sightOne c_sightOther c_sights c_pad c_padMany c_act c_which c_key c_other c_acts c_order c_digest c_tall c_had c_badAct c_badWhy c_alikeAct c_alikeTwo c_work c_isWorked c_trees c_from c_upTo c_shape c_kept c_isKept c_keptAt c_isWriting)) (As := [.int l1, .int l4]) (rest := [.int l3]) G koX8_95 (r_X8_has H_x1) (Nat.le_of_ble_eq_true rfl) 8 rfl rfl rfl rfl (Nat.le_of_ble_eq_true rfl) ⟨Nat.zero_le _, Nat.zero_le _⟩ dX8_ofBoth_17 rfl rfl ?_
      refine w_if_ne (tgt := 33) (pc2 := 23) G dX8_ofBoth_20 (by decide) rfl (fun cc => ?_) (fun cc => ?_)
      · replace h := (if_neg cc).symm.trans h
        refine w_iconst (pc2 := 34) G dX8_ofBoth_33 k_iconst_1 rfl ?_
        refine w_goto (tgt := 38) G dX8_ofBoth_34 (by decide) ?_
        refine w_iadd (pc2 := 39) G dX8_ofBoth_38 rfl ?_
        refine w_istore_n (pc2 := 40) (lv2 := [(3, .int (l3 + (1 : Int32))), (0, .ref (a o)), (1, .int l1), (2, .int l2), (4, .int l4)]) G dX8_ofBoth_39 rfl (Nat.le_of_ble_eq_true rfl) rfl rfl ?_
        refine w_iinc (pc2 := 43) (lv2 := [(4, .int (l4 + (1 : Int32))), (3, .int (l3 + (1 : Int32))), (0, .ref (a o)), (1, .int l1), (2, .int l2)]) G 4 rfl dX8_ofBoth_40 k_iconst_1 (Nat.le_of_ble_eq_true rfl) rfl rfl ?_
        refine w_goto (tgt := 5) G dX8_ofBoth_43 (by decide) ?_
        exact w_lv [2, 3, 4, 1, 0] rfl (ih _ _ _ _ _ _ h K)
      · replace h := (if_pos cc).symm.trans h
        refine w_aload_n (pc2 := 24) G 0 rfl dX8_ofBoth_23 rfl rfl ?_
        refine w_iload_n (pc2 := 25) G 2 rfl dX8_ofBoth_24 rfl rfl ?_
        refine w_iload (pc2 := 27) G 4 rfl dX8_ofBoth_25 rfl ?_
        obtain ⟨x2, H_x2, h⟩ := bs h
        refine w_cV0 (pc2 := 30) (ws2 := (wX8 E a o c_seed c_is c_sightOne c_sightOther c_sights c_pad c_padMany c_act c_which c_key c_other c_acts c_order c_digest c_tall c_had c_badAct c_badWhy c_alikeAct c_alikeTwo c_work c_isWorked c_trees c_from c_upTo c_shape c_kept c_isKept c_keptAt c_isWriting)) (As := [.int l2, .int l4]) (rest := [.int l3]) G koX8_95 (r_X8_has H_x2) (Nat.le_of_ble_eq_true rfl) 8 rfl rfl rfl rfl (Nat.le_of_ble_eq_true rfl) ⟨Nat.zero_le _, Nat.zero_le _⟩ dX8_ofBoth_27 rfl rfl ?_
        refine w_if_eq (tgt := 37) (pc2 := 33) G dX8_ofBoth_30 (by decide) rfl (fun cc => ?_) (fun cc => ?_)
        · replace h := (if_pos cc).symm.trans h
          refine w_iconst (pc2 := 38) G dX8_ofBoth_37 k_iconst_0 rfl ?_
          refine w_iadd (pc2 := 39) G dX8_ofBoth_38 rfl ?_
          refine w_istore_n (pc2 := 40) (lv2 := [(3, .int (l3 + (0 : Int32))), (0, .ref (a o)), (1, .int l1), (2, .int l2), (4, .int l4)]) G dX8_ofBoth_39 rfl (Nat.le_of_ble_eq_true rfl) rfl rfl ?_
          refine w_iinc (pc2 := 43) (lv2 := [(4, .int (l4 + (1 : Int32))), (3, .int (l3 + (0 : Int32))), (0, .ref (a o)), (1, .int l1), (2, .int l2)]) G 4 rfl dX8_ofBoth_40 k_iconst_1 (Nat.le_of_ble_eq_true rfl) rfl rfl ?_
          refine w_goto (tgt := 5) G dX8_ofBoth_43 (by decide) ?_
          exact w_lv [2, 3, 4, 1, 0] rfl (ih _ _ _ _ _ _ h K)
        · replace h := (if_neg cc).symm.trans h
          refine w_iconst (pc2 := 34) G dX8_ofBoth_33 k_iconst_1 rfl ?_
          refine w_goto (tgt := 38) G dX8_ofBoth_34 (by decide) ?_
          refine w_iadd (pc2 := 39) G dX8_ofBoth_38 rfl ?_
          refine w_istore_n (pc2 := 40) (lv2 := [(3, .int (l3 + (1 : Int32))), (0, .ref (a o)), (1, .int l1), (2, .int l2), (4, .int l4)]) G dX8_ofBoth_39 rfl (Nat.le_of_ble_eq_true rfl) rfl rfl ?_
          refine w_iinc (pc2 := 43) (lv2 := [(4, .int (l4 + (1 : Int32))), (3, .int (l3 + (1 : Int32))), (0, .ref (a o)), (1, .int l1), (2, .int l2)]) G 4 rfl dX8_ofBoth_40 k_iconst_1 (Nat.le_of_ble_eq_true rfl) rfl rfl ?_
          refine w_goto (tgt := 5) G dX8_ofBoth_43 (by decide) ?_
          exact w_lv [2, 3, 4, 1, 0] rfl (ih _ _ _ _ _ _ h K)
set_option maxHeartbeats 4000000 in
set_option maxRecDepth 100000 in
theorem r_X8_ofBoth {l : Launch} {E : EV} {a : Nat → Nat} {o : Nat} {c_seed : Int32} {c_is c_sightOne c_sightOther : Nat → Int32} {c_sights : Int32} {c_pad : Nat → Int32} {c_padMany : Int32} {c_act c_which c_key c_other : Nat → Int32} {c_acts : Int32} {c_order : Nat → Int32} {c_digest : Nat → Int64} {c_tall c_had : Nat → Int32} {c_badAct c_badWhy c_alikeAct c_alikeTwo c_work c_isWorked : Int32} {c_trees : Nat → Int64} {c_from c_upTo : Nat → Int32} {c_shape : Nat → Int64} {c_kept c_isKept : Nat → Int32} {c_keptAt c_isWriting : Int32} {l1 : Int32} {l2 : Int32} {R : Int32} (h : f_X8_ofBoth c_is l1 l2 = some R) : Ret1 l E yX8_ofBoth cX8_ofBoth 5 (some .int) 1 (wX8 E a o c_seed c_is c_sightOne c_sightOther c_sights c_pad c_padMany c_act c_which c_key c_other c_acts c_order c_digest c_tall c_had c_badAct c_badWhy c_alikeAct c_alikeTwo c_work c_isWorked c_trees c_from c_upTo c_shape c_kept c_isKept c_keptAt c_isWriting) [.ref (a o), .int l1, .int l2] (some (.int R)) (wX8 E a o c_seed c_is c_sightOne c_sightOther c_sights c_pad c_padMany c_act c_which c_key c_other c_acts c_order c_digest c_tall c_had c_badAct c_badWhy c_alikeAct c_alikeTwo c_work c_isWorked c_trees c_from c_upTo c_shape c_kept c_isKept c_keptAt c_isWriting) := by
  refine Ret.intro (lv := [(0, .ref (a o)), (1, .int l1), (2, .int l2)]) (by decide) (Nat.le_of_ble_eq_true rfl) rfl ?_
  intro g hgl G hQ
  subst hgl
  rw [f_X8_ofBoth] at h
  refine w_iconst (pc2 := 1) G dX8_ofBoth_0 k_iconst_0 rfl ?_
  refine w_istore_n (pc2 := 2) (lv2 := [(3, .int (0 : Int32)), (0, .ref (a o)), (1, .int l1), (2, .int l2)]) G dX8_ofBoth_1 rfl (Nat.le_of_ble_eq_true rfl) rfl rfl ?_
  refine w_iconst (pc2 := 3) G dX8_ofBoth_2 k_iconst_0 rfl ?_
  refine w_istore (pc2 := 5) (lv2 := [(4, .int (0 : Int32)), (3, .int (0 : Int32)), (0, .ref (a o)), (1, .int l1), (2, .int l2)]) G dX8_ofBoth_3 (Nat.le_of_ble_eq_true rfl) rfl rfl ?_
  obtain ⟨x1, h0, h⟩ := bs h
  have K_x1 : WW g E 5 0 0 (wX8 E a o c_seed c_is c_sightOne c_sightOther c_sights c_pad c_padMany c_act c_which c_key c_other c_acts c_order c_digest c_tall c_had c_badAct c_badWhy c_alikeAct c_alikeTwo c_work c_isWorked c_trees c_from c_upTo c_shape c_kept c_isKept c_keptAt c_isWriting) [(3, .int x1)] 46 [] := by
    clear h0
    refine w_iload_n (pc2 := 47) G 0 rfl dX8_ofBoth_46 rfl rfl ?_
    cases h
    exact w_iret G hQ rfl ⟨rfl, rfl⟩ dX8_ofBoth_47
  exact w_lv [2, 3, 4, 1, 0] rfl (lp_X8_ofBoth_5 G 20000 _ _ _ _ _ _ h0 (w_lv [0] rfl K_x1))
