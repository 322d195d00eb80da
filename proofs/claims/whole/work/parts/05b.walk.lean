set_option maxHeartbeats 4000000 in
set_option maxRecDepth 100000 in
theorem lp_X3_fill_2 {g : CX} {E : EV} {a : Nat → Nat} {o : Nat} {c_count : Int32}  (G : GG g E RX3 cX3_fill 2 none 0 0 0) : ∀ (n : Nat) (c_seeds : Nat → Int64) (l1 : Int32) (R : (Nat → Int64)), L_X3_fill_2 n c_seeds l1 = some R → WW g E 2 0 0 (wX3 E a o c_count R) [(0, .ref (a o))] 24 [] → WW g E 2 0 0 (wX3 E a o c_count c_seeds) [(0, .ref (a o)), (1, .int l1)] 2 [] := by
  intro n
  induction n with
  | zero => intro c_seeds l1 R h; exact no_some h
  | succ n ih =>
    intro c_seeds l1 R h K
    rw [L_X3_fill_2] at h
    refine w_iload_n (pc2 := 3) G 1 rfl dX3_fill_2 rfl rfl ?_
    refine w_sipush (pc2 := 6) G dX3_fill_3 k_sipush_157 rfl ?_
    refine w_icmp_ge (tgt := 24) (pc2 := 9) G dX3_fill_6 (by decide) rfl (fun cc => ?_) (fun cc => ?_)
    · replace h := (if_pos cc).symm.trans h
      cases h
      exact w_lv [0] rfl K
    · replace h := (if_neg cc).symm.trans h
      refine w_aload_n (pc2 := 10) G 0 rfl dX3_fill_9 rfl rfl ?_
      refine w_get (pc2 := 13) G foX3_11 0 rfl rfl dX3_fill_10 rfl ?_
      refine w_iload_n (pc2 := 14) G 1 rfl dX3_fill_13 rfl rfl ?_
      refine w_ldc2 (pc2 := 17) G wd_24 dX3_fill_14 rfl ?_
      obtain ⟨f1, H_f1, h⟩ := bs h
      refine w_lasto (pc2 := 18) (ws2 := (wX3 E a o c_count f1)) G 1 rfl H_f1 rfl dX3_fill_17 rfl ?_
      refine w_iinc (pc2 := 21) (lv2 := [(1, .int (l1 + (1 : Int32))), (0, .ref (a o))]) G 1 rfl dX3_fill_18 k_iconst_1 (Nat.le_of_ble_eq_true rfl) rfl rfl ?_
      refine w_goto (tgt := 2) G dX3_fill_21 (by decide) ?_
      exact w_lv [1, 0] rfl (ih _ _ _ h K)
set_option maxHeartbeats 4000000 in
set_option maxRecDepth 100000 in
theorem r_X3_fill {l : Launch} {E : EV} {a : Nat → Nat} {o : Nat} {c_count : Int32} {c_seeds : Nat → Int64}  {R : (Nat → Int64)} (h : f_X3_fill c_seeds = some R) : Ret1 l E yX3_fill cX3_fill 2 none 0 (wX3 E a o c_count c_seeds) [.ref (a o)] none (wX3 E a o c_count R) := by
  refine Ret.intro (lv := [(0, .ref (a o))]) (by decide) (Nat.le_of_ble_eq_true rfl) rfl ?_
  intro g hgl G hQ
  subst hgl
  rw [f_X3_fill] at h
  refine w_iconst (pc2 := 1) G dX3_fill_0 k_iconst_0 rfl ?_
  refine w_istore_n (pc2 := 2) (lv2 := [(1, .int (0 : Int32)), (0, .ref (a o))]) G dX3_fill_1 rfl (Nat.le_of_ble_eq_true rfl) rfl rfl ?_
  obtain ⟨x1, h0, h⟩ := bs h
  have K_x1 : WW g E 2 0 0 (wX3 E a o c_count x1) [(0, .ref (a o))] 24 [] := by
    clear h0
    refine w_aload_n (pc2 := 25) G 0 rfl dX3_fill_24 rfl rfl ?_
    refine w_get (pc2 := 28) G foX3_11 0 rfl rfl dX3_fill_25 rfl ?_
    refine w_sipush (pc2 := 31) G dX3_fill_28 k_sipush_156 rfl ?_
    refine w_ldc2 (pc2 := 34) G wd_25 dX3_fill_31 rfl ?_
    obtain ⟨f2, H_f2, h⟩ := bs h
    refine w_lasto (pc2 := 35) (ws2 := (wX3 E a o c_count f2)) G 1 rfl H_f2 rfl dX3_fill_34 rfl ?_
    cases h
    exact w_vret G hQ rfl ⟨rfl, rfl⟩ dX3_fill_35
  exact w_lv [1, 0] rfl (lp_X3_fill_2 G 20000 _ _ _ h0 (w_lv [0] rfl K_x1))

set_option maxHeartbeats 4000000 in
set_option maxRecDepth 100000 in
theorem r_X3_clear {l : Launch} {E : EV} {a : Nat → Nat} {o : Nat} {c_count : Int32} {c_seeds : Nat → Int64}  {R : Int32 × (Nat → Int64)} (h : f_X3_clear c_count c_seeds = some R) : Ret1 l E yX3_clear cX3_clear 1 none 1 (wX3 E a o c_count c_seeds) [.ref (a o)] none (wX3 E a o R.1 R.2) := by
  refine Ret.intro (lv := [(0, .ref (a o))]) (by decide) (Nat.le_of_ble_eq_true rfl) rfl ?_
  intro g hgl G hQ
  subst hgl
  rw [f_X3_clear] at h
  refine w_aload_n (pc2 := 1) G 0 rfl dX3_clear_0 rfl rfl ?_
  refine w_iconst (pc2 := 2) G dX3_clear_1 k_iconst_0 rfl ?_
  refine w_put (pc2 := 5) (ws2 := (wX3 E a o (0 : Int32) c_seeds)) G foX3_22 tokX3 0 rfl rfl rfl rfl (Nat.le_of_ble_eq_true rfl) rfl dX3_clear_2 rfl ?_
  refine w_aload_n (pc2 := 6) G 0 rfl dX3_clear_5 rfl rfl ?_
  obtain ⟨x1, H_x1, h⟩ := bs h
  refine w_cV0 (pc2 := 9) (ws2 := (wX3 E a o (0 : Int32) x1)) (As := []) (rest := []) G koX3_15 (r_X3_fill H_x1) (Nat.le_of_ble_eq_true rfl) 3 rfl rfl rfl rfl (Nat.le_of_ble_eq_true rfl) ⟨Nat.zero_le _, Nat.zero_le _⟩ dX3_clear_6 rfl rfl ?_
  cases h
  exact w_vret G hQ rfl ⟨rfl, rfl⟩ dX3_clear_9

set_option maxHeartbeats 4000000 in
set_option maxRecDepth 100000 in
theorem r_X3_copy {l : Launch} {E : EV} {a : Nat → Nat} {o o1 : Nat} {c_count : Int32} {c_seeds : Nat → Int64} {c_r1_count : Int32} {c_r1_seeds : Nat → Int64}  {R : Int32 × (Nat → Int64)} (h : f_X3_copy c_count c_seeds c_r1_count c_r1_seeds = some R) : Ret1 l E yX3_copy cX3_copy 2 none 1 ((wX3 E a o c_count c_seeds) ++ (wX3 E a o1 c_r1_count c_r1_seeds)) [.ref (a o), .ref (a o1)] none ((wX3 E a o R.1 R.2) ++ (wX3 E a o1 c_r1_count c_r1_seeds)) := by
  refine Ret.intro (lv := [(0, .ref (a o)), (1, .ref (a o1))]) (by decide) (Nat.le_of_ble_eq_true rfl) rfl ?_
  intro g hgl G hQ
  subst hgl
  rw [f_X3_copy] at h
  refine w_aload_n (pc2 := 1) G 0 rfl dX3_copy_0 rfl rfl ?_
  refine w_aload_n (pc2 := 2) G 1 rfl dX3_copy_1 rfl rfl ?_
  refine w_get (pc2 := 5) G foX3_22 2 rfl rfl dX3_copy_2 rfl ?_
  refine w_put (pc2 := 8) (ws2 := ((wX3 E a o c_r1_count c_seeds) ++ (wX3 E a o1 c_r1_count c_r1_seeds))) G foX3_22 tokX3 0 rfl rfl rfl rfl (Nat.le_of_ble_eq_true rfl) rfl dX3_copy_5 rfl ?_
  refine w_aload_n (pc2 := 9) G 1 rfl dX3_copy_8 rfl rfl ?_
  refine w_get (pc2 := 12) G foX3_11 2 rfl rfl dX3_copy_9 rfl ?_
  refine w_iconst (pc2 := 13) G dX3_copy_12 k_iconst_0 rfl ?_
  refine w_aload_n (pc2 := 14) G 0 rfl dX3_copy_13 rfl rfl ?_
  refine w_get (pc2 := 17) G foX3_11 0 rfl rfl dX3_copy_14 rfl ?_
  refine w_iconst (pc2 := 18) G dX3_copy_17 k_iconst_0 rfl ?_
  refine w_sipush (pc2 := 21) G dX3_copy_18 k_sipush_157 rfl ?_
  refine w_copyl (pc2 := 24) (ws2 := ((wX3 E a o c_r1_count (va_cpy c_r1_seeds c_seeds 0 0 (157 : Int32).toNatClampNeg)) ++ (wX3 E a o1 c_r1_count c_r1_seeds))) G wd_30 wd_31 wd_32 wd_33 3 1 rfl rfl (by decide) (by decide) (Nat.le_of_ble_eq_true rfl) (by decide +kernel) rfl dX3_copy_21 rfl ?_
  cases h
  exact w_vret G hQ rfl ⟨rfl, rfl⟩ dX3_copy_24

set_option maxHeartbeats 4000000 in
set_option maxRecDepth 100000 in
theorem r_X7_priority {l : Launch} {E : EV}  {l0 : Int32} {l1 : Int32} {R : Int32} (h : f_X7_priority l0 l1 = some R) : Ret1 l E yX7_priority cX7_priority 3 (some .int) 0 [] [.int l0, .int l1] (some (.int R)) [] := by
  refine Ret.intro (lv := [(0, .int l0), (1, .int l1)]) (by decide) (Nat.le_of_ble_eq_true rfl) rfl ?_
  intro g hgl G hQ
  subst hgl
  rw [f_X7_priority] at h
  refine w_iload_n (pc2 := 1) G 0 rfl dX7_priority_0 rfl rfl ?_
  refine w_sipush (pc2 := 4) G dX7_priority_1 k_sipush_131 rfl ?_
  refine w_iload_n (pc2 := 5) G 1 rfl dX7_priority_4 rfl rfl ?_
  refine w_imul (pc2 := 6) G dX7_priority_5 rfl ?_
  refine w_iadd (pc2 := 7) G dX7_priority_6 rfl ?_
  refine w_sipush (pc2 := 10) G dX7_priority_7 k_sipush_10007 rfl ?_
  refine w_irem (pc2 := 11) G dX7_priority_10 (by decide) rfl ?_
  refine w_istore_n (pc2 := 12) (lv2 := [(2, .int ((l0 + ((131 : Int32) * l1)) - (l0 + ((131 : Int32) * l1)) / (10007 : Int32) * (10007 : Int32))), (0, .int l0), (1, .int l1)]) G dX7_priority_11 rfl (Nat.le_of_ble_eq_true rfl) rfl rfl ?_
  refine w_iload_n (pc2 := 13) G 0 rfl dX7_priority_12 rfl rfl ?_
  refine w_iload_n (pc2 := 14) G 0 rfl dX7_priority_13 rfl rfl ?_
  refine w_imul (pc2 := 15) G dX7_priority_14 rfl ?_
  refine w_sipush (pc2 := 18) G dX7_priority_15 k_sipush_10007 rfl ?_
  refine w_irem (pc2 := 19) G dX7_priority_18 (by decide) rfl ?_
  cases h
  exact w_iret G hQ rfl ⟨rfl, rfl⟩ dX7_priority_19

set_option maxHeartbeats 4000000 in
set_option maxRecDepth 100000 in
theorem r_X7_ranksAbove {l : Launch} {E : EV}  {l0 : Int32} {l1 : Int32} {l2 : Int32} {R : Int32} (h : f_X7_ranksAbove l0 l1 l2 = some R) : Ret1 l E yX7_ranksAbove cX7_ranksAbove 5 (some .boolean) 1 [] [.int l0, .int l1, .int l2] (some (.int R)) [] := by
  refine Ret.intro (lv := [(0, .int l0), (1, .int l1), (2, .int l2)]) (by decide) (Nat.le_of_ble_eq_true rfl) rfl ?_
  intro g hgl G hQ
  subst hgl
  rw [f_X7_ranksAbove] at h
  refine w_iload_n (pc2 := 1) G 0 rfl dX7_ranksAbove_0 rfl rfl ?_
  refine w_iload_n (pc2 := 2) G 1 rfl dX7_ranksAbove_1 rfl rfl ?_
  obtain ⟨x1, H_x1, h⟩ := bs h
  refine w_cS0 (pc2 := 5) (As := [.int l0, .int l1]) (rest := []) G koX7_170 (r_X7_priority H_x1) (Nat.le_of_ble_eq_true rfl) rfl rfl (Nat.le_of_ble_eq_true rfl) ⟨Nat.zero_le _, Nat.zero_le _⟩ dX7_ranksAbove_2 rfl rfl ?_
  refine w_istore_n (pc2 := 6) (lv2 := [(3, .int x1), (0, .int l0), (1, .int l1), (2, .int l2)]) G dX7_ranksAbove_5 rfl (Nat.le_of_ble_eq_true rfl) rfl rfl ?_
  refine w_iload_n (pc2 := 7) G 1 rfl dX7_ranksAbove_6 rfl rfl ?_
  refine w_iload_n (pc2 := 8) G 3 rfl dX7_ranksAbove_7 rfl rfl ?_
  obtain ⟨x2, H_x2, h⟩ := bs h
  refine w_cS0 (pc2 := 11) (As := [.int l0, .int l2]) (rest := []) G koX7_170 (r_X7_priority H_x2) (Nat.le_of_ble_eq_true rfl) rfl rfl (Nat.le_of_ble_eq_true rfl) ⟨Nat.zero_le _, Nat.zero_le _⟩ dX7_ranksAbove_8 rfl rfl ?_
  refine w_istore (pc2 := 13) (lv2 := [(4, .int x2), (3, .int x1), (0, .int l0), (1, .int l1), (2, .int l2)]) G dX7_ranksAbove_11 (Nat.le_of_ble_eq_true rfl) rfl rfl ?_
  refine w_iload_n (pc2 := 14) G 1 rfl dX7_ranksAbove_13 rfl rfl ?_
  refine w_iload (pc2 := 16) G 0 rfl dX7_ranksAbove_14 rfl ?_
  refine w_icmp_eq (tgt := 33) (pc2 := 19) G dX7_ranksAbove_16 (by decide) rfl (fun cc => ?_) (fun cc => ?_)
  · replace h := (if_pos cc).symm.trans h
    refine w_iload_n (pc2 := 34) G 3 rfl dX7_ranksAbove_33 rfl rfl ?_
    refine w_iload_n (pc2 := 35) G 4 rfl dX7_ranksAbove_34 rfl rfl ?_
    refine w_icmp_ge (tgt := 42) (pc2 := 38) G dX7_ranksAbove_35 (by decide) rfl (fun cc => ?_) (fun cc => ?_)
    · replace h := (if_pos cc).symm.trans h
      refine w_iconst (pc2 := 43) G dX7_ranksAbove_42 k_iconst_0 rfl ?_
      cases h
      exact w_zret G hQ rfl (Or.inl rfl) ⟨rfl, rfl⟩ dX7_ranksAbove_43
    · replace h := (if_neg cc).symm.trans h
      refine w_iconst (pc2 := 39) G dX7_ranksAbove_38 k_iconst_1 rfl ?_
      refine w_goto (tgt := 43) G dX7_ranksAbove_39 (by decide) ?_
      cases h
      exact w_zret G hQ rfl (Or.inr rfl) ⟨rfl, rfl⟩ dX7_ranksAbove_43
  · replace h := (if_neg cc).symm.trans h
    refine w_iload_n (pc2 := 20) G 1 rfl dX7_ranksAbove_19 rfl rfl ?_
    refine w_iload (pc2 := 22) G 0 rfl dX7_ranksAbove_20 rfl ?_
    refine w_icmp_le (tgt := 29) (pc2 := 25) G dX7_ranksAbove_22 (by decide) rfl (fun cc => ?_) (fun cc => ?_)
    · replace h := (if_pos cc).symm.trans h
      refine w_iconst (pc2 := 30) G dX7_ranksAbove_29 k_iconst_0 rfl ?_
      refine w_goto (tgt := 43) G dX7_ranksAbove_30 (by decide) ?_
      cases h
      exact w_zret G hQ rfl (Or.inl rfl) ⟨rfl, rfl⟩ dX7_ranksAbove_43
    · replace h := (if_neg cc).symm.trans h
      refine w_iconst (pc2 := 26) G dX7_ranksAbove_25 k_iconst_1 rfl ?_
      refine w_goto (tgt := 43) G dX7_ranksAbove_26 (by decide) ?_
      cases h
      exact w_zret G hQ rfl (Or.inr rfl) ⟨rfl, rfl⟩ dX7_ranksAbove_43

set_option maxHeartbeats 4000000 in
set_option maxRecDepth 100000 in
theorem lp_X3_add_23 {g : CX} {E : EV} {a : Nat → Nat} {o : Nat} {c_count : Int32}  (G : GG g E RX3 cX3_add 4 (some .boolean) 2 0 0) : ∀ (n : Nat) (c_seeds : Nat → Int64) (l1 : Int32) (l2 : Int32) (l3 : Int32) (R : (Nat → Int64)), L_X3_add_23 n c_seeds l1 l2 l3 = some R → WW g E 4 0 0 (wX3 E a o c_count R) [] 67 [] → WW g E 4 0 0 (wX3 E a o c_count c_seeds) [(0, .ref (a o)), (1, .int l1), (2, .int l2), (3, .int l3)] 23 [] := by
  intro n
  induction n with
  | zero => intro c_seeds l1 l2 l3 R h; exact no_some h
  | succ n ih =>
    intro c_seeds l1 l2 l3 R h K
    rw [L_X3_add_23] at h
    refine w_iload_n (pc2 := 24) G 3 rfl dX3_add_23 rfl rfl ?_
    refine w_sipush (pc2 := 27) G dX3_add_24 k_sipush_10000 rfl ?_
    refine w_icmp_ge (tgt := 67) (pc2 := 30) G dX3_add_27 (by decide) rfl (fun cc => ?_) (fun cc => ?_)
    · replace h := (if_pos cc).symm.trans h
      cases h
      exact w_lv [] rfl K
    · replace h := (if_neg cc).symm.trans h
      refine w_iload_n (pc2 := 31) G 3 rfl dX3_add_30 rfl rfl ?_
      refine w_iload_n (pc2 := 32) G 1 rfl dX3_add_31 rfl rfl ?_
      refine w_iload_n (pc2 := 33) G 2 rfl dX3_add_32 rfl rfl ?_
      obtain ⟨x1, H_x1, h⟩ := bs h
      refine w_cS0N (pc2 := 36) (As := [.int l3, .int l1, .int l2]) (rest := []) G koX3_32 (r_X7_ranksAbove H_x1) (Nat.le_of_ble_eq_true rfl) rfl rfl (Nat.le_of_ble_eq_true rfl) ⟨Nat.zero_le _, Nat.zero_le _⟩ dX3_add_33 rfl rfl ?_
      refine w_if_ne (tgt := 61) (pc2 := 39) G dX3_add_36 (by decide) rfl (fun cc => ?_) (fun cc => ?_)
      · replace h := (if_neg cc).symm.trans h
        refine w_iinc (pc2 := 64) (lv2 := [(3, .int (l3 + (1 : Int32))), (0, .ref (a o)), (1, .int l1), (2, .int l2)]) G 3 rfl dX3_add_61 k_iconst_1 (Nat.le_of_ble_eq_true rfl) rfl rfl ?_
        refine w_goto (tgt := 23) G dX3_add_64 (by decide) ?_
        exact w_lv [1, 2, 3, 0] rfl (ih _ _ _ _ _ h K)
      · replace h := (if_pos cc).symm.trans h
        refine w_aload_n (pc2 := 40) G 0 rfl dX3_add_39 rfl rfl ?_
        refine w_get (pc2 := 43) G foX3_11 0 rfl rfl dX3_add_40 rfl ?_
        refine w_iload_n (pc2 := 44) G 3 rfl dX3_add_43 rfl rfl ?_
        refine w_bipush (pc2 := 46) G dX3_add_44 k_bipush_64 rfl ?_
        refine w_idiv (pc2 := 47) G dX3_add_46 (by decide) rfl ?_
        refine w_dup2 (pc2 := 48) G dX3_add_47 rfl rfl rfl ?_
        obtain ⟨v2, H_v2, h⟩ := bs h
        refine w_laldo (pc2 := 49) G 1 rfl H_v2 dX3_add_48 rfl ?_
        refine w_lconst (pc2 := 50) G dX3_add_49 k_lconst_1 rfl ?_
        refine w_iload_n (pc2 := 51) G 3 rfl dX3_add_50 rfl rfl ?_
        refine w_bipush (pc2 := 53) G dX3_add_51 k_bipush_64 rfl ?_
        refine w_irem (pc2 := 54) G dX3_add_53 (by decide) rfl ?_
        refine w_lshl (pc2 := 55) G dX3_add_54 rfl ?_
        refine w_ldc2 (pc2 := 58) G wd_24 dX3_add_55 rfl ?_
        refine w_lxor (pc2 := 59) G dX3_add_58 rfl ?_
        refine w_land (pc2 := 60) G dX3_add_59 rfl ?_
        obtain ⟨f3, H_f3, h⟩ := bs h
        refine w_lasto (pc2 := 61) (ws2 := (wX3 E a o c_count f3)) G 1 rfl H_f3 rfl dX3_add_60 rfl ?_
        refine w_iinc (pc2 := 64) (lv2 := [(3, .int (l3 + (1 : Int32))), (0, .ref (a o)), (1, .int l1), (2, .int l2)]) G 3 rfl dX3_add_61 k_iconst_1 (Nat.le_of_ble_eq_true rfl) rfl rfl ?_
        refine w_goto (tgt := 23) G dX3_add_64 (by decide) ?_
        exact w_lv [1, 2, 3, 0] rfl (ih _ _ _ _ _ h K)
set_option maxHeartbeats 4000000 in
set_option maxRecDepth 100000 in
theorem r_X3_add {l : Launch} {E : EV} {a : Nat → Nat} {o : Nat} {c_count : Int32} {c_seeds : Nat → Int64} {l1 : Int32} {l2 : Int32} {R : Int32 × Int32 × (Nat → Int64)} (h : f_X3_add c_count c_seeds l1 l2 = some R) : Ret1 l E yX3_add cX3_add 4 (some .boolean) 2 (wX3 E a o c_count c_seeds) [.ref (a o), .int l1, .int l2] (some (.int R.1)) (wX3 E a o R.2.1 R.2.2) := by
  refine Ret.intro (lv := [(0, .ref (a o)), (1, .int l1), (2, .int l2)]) (by decide) (Nat.le_of_ble_eq_true rfl) rfl ?_
  intro g hgl G hQ
  subst hgl
  rw [f_X3_add] at h
  refine w_aload_n (pc2 := 1) G 0 rfl dX3_add_0 rfl rfl ?_
  refine w_get (pc2 := 4) G foX3_22 0 rfl rfl dX3_add_1 rfl ?_
  refine w_bipush (pc2 := 6) G dX3_add_4 k_bipush_8 rfl ?_
  refine w_icmp_lt (tgt := 11) (pc2 := 9) G dX3_add_6 (by decide) rfl (fun cc => ?_) (fun cc => ?_)
  · replace h := (if_pos cc).symm.trans h
    refine w_aload_n (pc2 := 12) G 0 rfl dX3_add_11 rfl rfl ?_
    refine w_dup (pc2 := 13) G dX3_add_12 rfl rfl ?_
    refine w_get (pc2 := 16) G foX3_22 0 rfl rfl dX3_add_13 rfl ?_
    refine w_iconst (pc2 := 17) G dX3_add_16 k_iconst_1 rfl ?_
    refine w_iadd (pc2 := 18) G dX3_add_17 rfl ?_
    refine w_put (pc2 := 21) (ws2 := (wX3 E a o (c_count + (1 : Int32)) c_seeds)) G foX3_22 tokX3 0 rfl rfl rfl rfl (Nat.le_of_ble_eq_true rfl) rfl dX3_add_18 rfl ?_
    refine w_iconst (pc2 := 22) G dX3_add_21 k_iconst_0 rfl ?_
    refine w_istore_n (pc2 := 23) (lv2 := [(3, .int (0 : Int32)), (0, .ref (a o)), (1, .int l1), (2, .int l2)]) G dX3_add_22 rfl (Nat.le_of_ble_eq_true rfl) rfl rfl ?_
    obtain ⟨x1, h0, h⟩ := bs h
    have K_x1 : WW g E 4 0 0 (wX3 E a o (c_count + (1 : Int32)) x1) [] 67 [] := by
      clear h0
      refine w_iconst (pc2 := 68) G dX3_add_67 k_iconst_1 rfl ?_
      cases h
      exact w_zret G hQ rfl (Or.inr rfl) ⟨rfl, rfl⟩ dX3_add_68
    exact w_lv [1, 2, 3, 0] rfl (lp_X3_add_23 G 20000 _ _ _ _ _ h0 (w_lv [] rfl K_x1))
  · replace h := (if_neg cc).symm.trans h
    refine w_iconst (pc2 := 10) G dX3_add_9 k_iconst_0 rfl ?_
    cases h
    exact w_zret G hQ rfl (Or.inl rfl) ⟨rfl, rfl⟩ dX3_add_10

set_option maxHeartbeats 4000000 in
set_option maxRecDepth 100000 in
theorem r_J13_bitCount_95d88 {l : Launch} {E : EV}  {l0 : Int64} {R : Int32} (h : f_J13_bitCount_95d88 l0 = some R) : Ret1 l E yJ13_bitCount_95d88 cJ13_bitCount_95d88 2 (some .int) 0 [] [.long l0] (some (.int R)) [] := by
  refine Ret.intro (lv := [(0, .long l0)]) (by decide) (Nat.le_of_ble_eq_true rfl) rfl ?_
  intro g hgl G hQ
  subst hgl
  rw [f_J13_bitCount_95d88] at h
  refine w_lload_n (pc2 := 1) G 0 rfl dJ13_bitCount_95d88_0 rfl rfl ?_
  refine w_lload_n (pc2 := 2) G 0 rfl dJ13_bitCount_95d88_1 rfl rfl ?_
  refine w_iconst (pc2 := 3) G dJ13_bitCount_95d88_2 k_iconst_1 rfl ?_
  refine w_lushr (pc2 := 4) G dJ13_bitCount_95d88_3 rfl ?_
  refine w_ldc2 (pc2 := 7) G wd_37 dJ13_bitCount_95d88_4 rfl ?_
  refine w_land (pc2 := 8) G dJ13_bitCount_95d88_7 rfl ?_
  refine w_lsub (pc2 := 9) G dJ13_bitCount_95d88_8 rfl ?_
  refine w_lstore_n (pc2 := 10) (lv2 := [(0, .long (l0 - ((l0.toUInt64 >>> ((1 : Int32).toInt64.toUInt64 &&& Int64.toUInt64 63)).toInt64 &&& (6148914691236517205 : Int64))))]) G dJ13_bitCount_95d88_9 rfl (Nat.le_of_ble_eq_true rfl) rfl rfl ?_
  refine w_lload_n (pc2 := 11) G 0 rfl dJ13_bitCount_95d88_10 rfl rfl ?_
  refine w_ldc2 (pc2 := 14) G wd_38 dJ13_bitCount_95d88_11 rfl ?_
  refine w_land (pc2 := 15) G dJ13_bitCount_95d88_14 rfl ?_
  refine w_lload_n (pc2 := 16) G 0 rfl dJ13_bitCount_95d88_15 rfl rfl ?_
  refine w_iconst (pc2 := 17) G dJ13_bitCount_95d88_16 k_iconst_2 rfl ?_
  refine w_lushr (pc2 := 18) G dJ13_bitCount_95d88_17 rfl ?_
  refine w_ldc2 (pc2 := 21) G wd_38 dJ13_bitCount_95d88_18 rfl ?_
  refine w_land (pc2 := 22) G dJ13_bitCount_95d88_21 rfl ?_
  refine w_ladd (pc2 := 23) G dJ13_bitCount_95d88_22 rfl ?_
  refine w_lstore_n (pc2 := 24) (lv2 := [(0, .long (((l0 - ((l0.toUInt64 >>> ((1 : Int32).toInt64.toUInt64 &&& Int64.toUInt64 63)).toInt64 &&& (6148914691236517205 : Int64))) &&& (3689348814741910323 : Int64)) + (((l0 - ((l0.toUInt64 >>> ((1 : Int32).toInt64.toUInt64 &&& Int64.toUInt64 63)).toInt64 &&& (6148914691236517205 : Int64))).toUInt64 >>> ((2 : Int32).toInt64.toUInt64 &&& Int64.toUInt64 63)).toInt64 &&& (3689348814741910323 : Int64))))]) G dJ13_bitCount_95d88_23 rfl (Nat.le_of_ble_eq_true rfl) rfl rfl ?_
  refine w_lload_n (pc2 := 25) G 0 rfl dJ13_bitCount_95d88_24 rfl rfl ?_
  refine w_lload_n (pc2 := 26) G 0 rfl dJ13_bitCount_95d88_25 rfl rfl ?_
  refine w_iconst (pc2 := 27) G dJ13_bitCount_95d88_26 k_iconst_4 rfl ?_
  refine w_lushr (pc2 := 28) G dJ13_bitCount_95d88_27 rfl ?_
  refine w_ladd (pc2 := 29) G dJ13_bitCount_95d88_28 rfl ?_
  refine w_ldc2 (pc2 := 32) G wd_39 dJ13_bitCount_95d88_29 rfl ?_
  refine w_land (pc2 := 33) G dJ13_bitCount_95d88_32 rfl ?_
  refine w_lstore_n (pc2 := 34) (lv2 := [(0, .long (((((l0 - ((l0.toUInt64 >>> ((1 : Int32).toInt64.toUInt64 &&& Int64.toUInt64 63)).toInt64 &&& (6148914691236517205 : Int64))) &&& (3689348814741910323 : Int64)) + (((l0 - ((l0.toUInt64 >>> ((1 : Int32).toInt64.toUInt64 &&& Int64.toUInt64 63)).toInt64 &&& (6148914691236517205 : Int64))).toUInt64 >>> ((2 : Int32).toInt64.toUInt64 &&& Int64.toUInt64 63)).toInt64 &&& (3689348814741910323 : Int64))) + ((((l0 - ((l0.toUInt64 >>> ((1 : Int32).toInt64.toUInt64 &&& Int64.toUInt64 63)).toInt64 &&& (6148914691236517205 : Int64))) &&& (3689348814741910323 : Int64)) + (((l0 - ((l0.toUInt64 >>> ((1 : Int32).toInt64.toUInt64 &&& Int64.toUInt64 63)).toInt64 &&& (6148914691236517205 : Int64))).toUInt64 >>> ((2 : Int32).toInt64.toUInt64 &&& Int64.toUInt64 63)).toInt64 &&& (3689348814741910323 : Int64))).toUInt64 >>> ((4 : Int32).toInt64.toUInt64 &&& Int64.toUInt64 63)).toInt64) &&& (1085102592571150095 : Int64)))]) G dJ13_bitCount_95d88_33 rfl (Nat.le_of_ble_eq_true rfl) rfl rfl ?_
  refine w_lload_n (pc2 := 35) G 0 rfl dJ13_bitCount_95d88_34 rfl rfl ?_
  refine w_lload_n (pc2 := 36) G 0 rfl dJ13_bitCount_95d88_35 rfl rfl ?_
  refine w_bipush (pc2 := 38) G dJ13_bitCount_95d88_36 k_bipush_8 rfl ?_
  refine w_lushr (pc2 := 39) G dJ13_bitCount_95d88_38 rfl ?_
  refine w_ladd (pc2 := 40) G dJ13_bitCount_95d88_39 rfl ?_
  refine w_lstore_n (pc2 := 41) (lv2 := [(0, .long ((((((l0 - ((l0.toUInt64 >>> ((1 : Int32).toInt64.toUInt64 &&& Int64.toUInt64 63)).toInt64 &&& (6148914691236517205 : Int64))) &&& (3689348814741910323 : Int64)) + (((l0 - ((l0.toUInt64 >>> ((1 : Int32).toInt64.toUInt64 &&& Int64.toUInt64 63)).toInt64 &&& (6148914691236517205 : Int64))).toUInt64 >>> ((2 : Int32).toInt64.toUInt64 &&& Int64.toUInt64 63)).toInt64 &&& (3689348814741910323 : Int64))) + ((((l0 - ((l0.toUInt64 >>> ((1 : Int32).toInt64.toUInt64 &&& Int64.toUInt64 63)).toInt64 &&& (6148914691236517205 : Int64))) &&& (3689348814741910323 : Int64)) + (((l0 - ((l0.toUInt64 >>> ((1 : Int32).toInt64.toUInt64 &&& Int64.toUInt64 63)).toInt64 &&& (6148914691236517205 : Int64))).toUInt64 >>> ((2 : Int32).toInt64.toUInt64 &&& Int64.toUInt64 63)).toInt64 &&& (3689348814741910323 : Int64))).toUInt64 >>> ((4 : Int32).toInt64.toUInt64 &&& Int64.toUInt64 63)).toInt64) &&& (1085102592571150095 : Int64)) + ((((((l0 - ((l0.toUInt64 >>> ((1 : Int32).toInt64.toUInt64 &&& Int64.toUInt64 63)).toInt64 &&& (6148914691236517205 : Int64))) &&& (3689348814741910323 : Int64)) + (((l0 - ((l0.toUInt64 >>> ((1 : Int32).toInt64.toUInt64 &&& Int64.toUInt64 63)).toInt64 &&& (6148914691236517205 : Int64))).toUInt64 >>> ((2 : Int32).toInt64.toUInt64 &&& Int64.toUInt64 63)).toInt64 &&& (3689348814741910323 : Int64))) + ((((l0 - ((l0.toUInt64 >>> ((1 : Int32).toInt64.toUInt64 &&& Int64.toUInt64 63)).toInt64 &&& (6148914691236517205 : Int64))) &&& (3689348814741910323 : Int64)) + (((l0 - ((l0.toUInt64 >>> ((1 : Int32).toInt64.toUInt64 &&& Int64.toUInt64 63)).toInt64 &&& (6148914691236517205 : Int64))).toUInt64 >>> ((2 : Int32).toInt64.toUInt64 &&& Int64.toUInt64 63)).toInt64 &&& (3689348814741910323 : Int64))).toUInt64 >>> ((4 : Int32).toInt64.toUInt64 &&& Int64.toUInt64 63)).toInt64) &&& (1085102592571150095 : Int64)).toUInt64 >>> ((8 : Int32).toInt64.toUInt64 &&& Int64.toUInt64 63)).toInt64))]) G dJ13_bitCount_95d88_40 rfl (Nat.le_of_ble_eq_true rfl) rfl rfl ?_
  refine w_lload_n (pc2 := 42) G 0 rfl dJ13_bitCount_95d88_41 rfl rfl ?_
  refine w_lload_n (pc2 := 43) G 0 rfl dJ13_bitCount_95d88_42 rfl rfl ?_
  refine w_bipush (pc2 := 45) G dJ13_bitCount_95d88_43 k_bipush_16 rfl ?_
  refine w_lushr (pc2 := 46) G dJ13_bitCount_95d88_45 rfl ?_
  refine w_ladd (pc2 := 47) G dJ13_bitCount_95d88_46 rfl ?_
  refine w_lstore_n (pc2 := 48) (lv2 := [(0, .long (((((((l0 - ((l0.toUInt64 >>> ((1 : Int32).toInt64.toUInt64 &&& Int64.toUInt64 63)).toInt64 &&& (6148914691236517205 : Int64))) &&& (3689348814741910323 : Int64)) + (((l0 - ((l0.toUInt64 >>> ((1 : Int32).toInt64.toUInt64 &&& Int64.toUInt64 63)).toInt64 &&& (6148914691236517205 : Int64))).toUInt64 >>> ((2 : Int32).toInt64.toUInt64 &&& Int64.toUInt64 63)).toInt64 &&& (3689348814741910323 : Int64))) + ((((l0 - ((l0.toUInt64 >>> ((1 : Int32).toInt64.toUInt64 &&& Int64.toUInt64 63)).toInt64 &&& (6148914691236517205 : Int64))) &&& (3689348814741910323 : Int64)) + (((l0 - ((l0.toUInt64 >>> ((1 : Int32).toInt64.toUInt64 &&& Int64.toUInt64 63)).toInt64 &&& (6148914691236517205 : Int64))).toUInt64 >>> ((2 : Int32).toInt64.toUInt64 &&& Int64.toUInt64 63)).toInt64 &&& (3689348814741910323 : Int64))).toUInt64 >>> ((4 : Int32).toInt64.toUInt64 &&& Int64.toUInt64 63)).toInt64) &&& (1085102592571150095 : Int64)) + ((((((l0 - ((l0.toUInt64 >>> ((1 : Int32).toInt64.toUInt64 &&& Int64.toUInt64 63)).toInt64 &&& (6148914691236517205 : Int64))) &&& (3689348814741910323 : Int64)) + (((l0 - ((l0.toUInt64 >>> ((1 : Int32).toInt64.toUInt64 &&& Int64.toUInt64 63)).toInt64 &&& (6148914691236517205 : Int64))).toUInt64 >>> ((2 : Int32).toInt64.toUInt64 &&& Int64.toUInt64 63)).toInt64 &&& (3689348814741910323 : Int64))) + ((((l0 - ((l0.toUInt64 >>> ((1 : Int32).toInt64.toUInt64 &&& Int64.toUInt64 63)).toInt64 &&& (6148914691236517205 : Int64))) &&& (3689348814741910323 : Int64)) + (((l0 - ((l0.toUInt64 >>> ((1 : Int32).toInt64.toUInt64 &&& Int64.toUInt64 63)).toInt64 &&& (6148914691236517205 : Int64))).toUInt64 >>> ((2 : Int32).toInt64.toUInt64 &&& Int64.toUInt64 63)).toInt64 &&& (3689348814741910323 : Int64))).toUInt64 >>> ((4 : Int32).toInt64.toUInt64 &&& Int64.toUInt64 63)).toInt64) &&& (1085102592571150095 : Int64)).toUInt64 >>> ((8 : Int32).toInt64.toUInt64 &&& Int64.toUInt64 63)).toInt64) + (((((((l0 - ((l0.toUInt64 >>> ((1 : Int32).toInt64.toUInt64 &&& Int64.toUInt64 63)).toInt64 &&& (6148914691236517205 : Int64))) &&& (3689348814741910323 : Int64)) + (((l0 - ((l0.toUInt64 >>> ((1 : Int32).toInt64.toUInt64 &&& Int64.toUInt64 63)).toInt64 &&& (6148914691236517205 : Int64))).toUInt64 >>> ((2 : Int32).toInt64.toUInt64 &&& Int64.toUInt64 63)).toInt64 &&& (3689348814741910323 : Int64))) + ((((l0 - ((l0.toUInt64 >>> ((1 : Int32).toInt64.toUInt64 &&& Int64.toUInt64 63)).toInt64 &&& (6148914691236517205 : Int64))) &&& (3689348814741910323 : Int64)) + (((l0 - ((l0.toUInt64 >>> ((1 : Int32).toInt64.toUInt64 &&& Int64.toUInt64 63)).toInt64 &&& (6148914691236517205 : Int64))).toUInt64 >>> ((2 : Int32).toInt64.toUInt64 &&& Int64.toUInt64 63)).toInt64 &&& (3689348814741910323 : Int64))).toUInt64 >>> ((4 : Int32).toInt64.toUInt64 &&& Int64.toUInt64 63)).toInt64) &&& (1085102592571150095 : Int64)) + ((((((l0 - ((l0.toUInt64 >>> ((1 : Int32).toInt64.toUInt64 &&& Int64.toUInt64 63)).toInt64 &&& (6148914691236517205 : Int64))) &&& (3689348814741910323 : Int64)) + (((l0 - ((l0.toUInt64 >>> ((1 : Int32).toInt64.toUInt64 &&& Int64.toUInt64 63)).toInt64 &&& (6148914691236517205 : Int64))).toUInt64 >>> ((2 : Int32).toInt64.toUInt64 &&& Int64.toUInt64 63)).toInt64 &&& (3689348814741910323 : Int64))) + ((((l0 - ((l0.toUInt64 >>> ((1 : Int32).toInt64.toUInt64 &&& Int64.toUInt64 63)).toInt64 &&& (6148914691236517205 : Int64))) &&& (3689348814741910323 : Int64)) + (((l0 - ((l0.toUInt64 >>> ((1 : Int32).toInt64.toUInt64 &&& Int64.toUInt64 63)).toInt64 &&& (6148914691236517205 : Int64))).toUInt64 >>> ((2 : Int32).toInt64.toUInt64 &&& Int64.toUInt64 63)).toInt64 &&& (3689348814741910323 : Int64))).toUInt64 >>> ((4 : Int32).toInt64.toUInt64 &&& Int64.toUInt64 63)).toInt64) &&& (1085102592571150095 : Int64)).toUInt64 >>> ((8 : Int32).toInt64.toUInt64 &&& Int64.toUInt64 63)).toInt64).toUInt64 >>> ((16 : Int32).toInt64.toUInt64 &&& Int64.toUInt64 63)).toInt64))]) G dJ13_bitCount_95d88_47 rfl (Nat.le_of_ble_eq_true rfl) rfl rfl ?_
  refine w_lload_n (pc2 := 49) G 0 rfl dJ13_bitCount_95d88_48 rfl rfl ?_
  refine w_lload_n (pc2 := 50) G 0 rfl dJ13_bitCount_95d88_49 rfl rfl ?_
  refine w_bipush (pc2 := 52) G dJ13_bitCount_95d88_50 k_bipush_32 rfl ?_
  refine w_lushr (pc2 := 53) G dJ13_bitCount_95d88_52 rfl ?_
  refine w_ladd (pc2 := 54) G dJ13_bitCount_95d88_53 rfl ?_
  refine w_lstore_n (pc2 := 55) (lv2 := [(0, .long ((((((((l0 - ((l0.toUInt64 >>> ((1 : Int32).toInt64.toUInt64 &&& Int64.toUInt64 63)).toInt64 &&& (6148914691236517205 : Int64))) &&& (3689348814741910323 : Int64)) + (((l0 - ((l0.toUInt64 >>> ((1 : Int32).toInt64.toUInt64 &&& Int64.toUInt64 63)).toInt64 &&& (6148914691236517205 : Int64))).toUInt64 >>> ((2 : Int32).toInt64.toUInt64 &&& Int64.toUInt64 63)).toInt64 &&& (3689348814741910323 : Int64))) + ((((l0 - ((l0.toUInt64 >>> ((1 : Int32).toInt64.toUInt64 &&& Int64.toUInt64 63)).toInt64 &&& (6148914691236517205 : Int64))) &&& (3689348814741910323 : Int64)) + (((l0 - ((l0.toUInt64 >>> ((1 : Int32).toInt64.toUInt64 &&& Int64.toUInt64 63)).toInt64 &&& (6148914691236517205 : Int64))).toUInt64 >>> ((2 : Int32).toInt64.toUInt64 &&& Int64.toUInt64 63)).toInt64 &&& (3689348814741910323 : Int64))).toUInt64 >>> ((4 : Int32).toInt64.toUInt64 &&& Int64.toUInt64 63)).toInt64) &&& (1085102592571150095 : Int64)) + ((((((l0 - ((l0.toUInt64 >>> ((1 : Int32).toInt64.toUInt64 &&& Int64.toUInt64 63)).toInt64 &&& (6148914691236517205 : Int64))) &&& (3689348814741910323 : Int64)) + (((l0 - ((l0.toUInt64 >>> ((1 : Int32).toInt64.toUInt64 &&& Int64.toUInt64 63)).toInt64 &&& (6148914691236517205 : Int64))).toUInt64 >>> ((2 : Int32).toInt64.toUInt64 &&& Int64.toUInt64 63)).toInt64 &&& (3689348814741910323 : Int64))) + ((((l0 - ((l0.toUInt64 >>> ((1 : Int32).toInt64.toUInt64 &&& Int64.toUInt64 63)).toInt64 &&& (6148914691236517205 : Int64))) &&& (3689348814741910323 : Int64)) + (((l0 - ((l0.toUInt64 >>> ((1 : Int32).toInt64.toUInt64 &&& Int64.toUInt64 63)).toInt64 &&& (6148914691236517205 : Int64))).toUInt64 >>> ((2 : Int32).toInt64.toUInt64 &&& Int64.toUInt64 63)).toInt64 &&& (3689348814741910323 : Int64))).toUInt64 >>> ((4 : Int32).toInt64.toUInt64 &&& Int64.toUInt64 63)).toInt64) &&& (1085102592571150095 : Int64)).toUInt64 >>> ((8 : Int32).toInt64.toUInt64 &&& Int64.toUInt64 63)).toInt64) + (((((((l0 - ((l0.toUInt64 >>> ((1 : Int32).toInt64.toUInt64 &&& Int64.toUInt64 63)).toInt64 &&& (6148914691236517205 : Int64))) &&& (3689348814741910323 : Int64)) + (((l0 - ((l0.toUInt64 >>> ((1 : Int32).toInt64.toUInt64 &&& Int64.toUInt64 63)).toInt64 &&& (6148914691236517205 : Int64))).toUInt64 >>> ((2 : Int32).toInt64.toUInt64 &&& Int64.toUInt64 63)).toInt64 &&& (3689348814741910323 : Int64))) + ((((l0 - ((l0.toUInt64 >>> ((1 : Int32).toInt64.toUInt64 &&& Int64.toUInt64 63)).toInt64 &&& (6148914691236517205 : Int64))) &&& (3689348814741910323 : Int64)) + (((l0 - ((l0.toUInt64 >>> ((1 : Int32).toInt64.toUInt64 &&& Int64.toUInt64 63)).toInt64 &&& (6148914691236517205 : Int64))).toUInt64 >>> ((2 : Int32).toInt64.toUInt64 &&& Int64.toUInt64 63)).toInt64 &&& (3689348814741910323 : Int64))).toUInt64 >>> ((4 : Int32).toInt64.toUInt64 &&& Int64.toUInt64 63)).toInt64) &&& (1085102592571150095 : Int64)) + ((((((l0 - ((l0.toUInt64 >>> ((1 : Int32).toInt64.toUInt64 &&& Int64.toUInt64 63)).toInt64 &&& (6148914691236517205 : Int64))) &&& (3689348814741910323 : Int64)) + (((l0 - ((l0.toUInt64 >>> ((1 : Int32).toInt64.toUInt64 &&& Int64.toUInt64 63)).toInt64 &&& (6148914691236517205 : Int64))).toUInt64 >>> ((2 : Int32).toInt64.toUInt64 &&& Int64.toUInt64 63)).toInt64 &&& (3689348814741910323 : Int64))) + ((((l0 - ((l0.toUInt64 >>> ((1 : Int32).toInt64.toUInt64 &&& Int64.toUInt64 63)).toInt64 &&& (6148914691236517205 : Int64))) &&& (3689348814741910323 : Int64)) + (((l0 - ((l0.toUInt64 >>> ((1 : Int32).toInt64.toUInt64 &&& Int64.toUInt64 63)).toInt64 &&& (6148914691236517205 : Int64))).toUInt64 >>> ((2 : Int32).toInt64.toUInt64 &&& Int64.toUInt64 63)).toInt64 &&& (3689348814741910323 : Int64))).toUInt64 >>> ((4 : Int32).toInt64.toUInt64 &&& Int64.toUInt64 63)).toInt64) &&& (1085102592571150095 : Int64)).toUInt64 >>> ((8 : Int32).toInt64.toUInt64 &&& Int64.toUInt64 63)).toInt64).toUInt64 >>> ((16 : Int32).toInt64.toUInt64 &&& Int64.toUInt64 63)).toInt64) + ((((((((l0 - ((l0.toUInt64 >>> ((1 : Int32).toInt64.toUInt64 &&& Int64.toUInt64 63)).toInt64 &&& (6148914691236517205 : Int64))) &&& (3689348814741910323 : Int64)) + (((l0 - ((l0.toUInt64 >>> ((1 : Int32).toInt64.toUInt64 &&& Int64.toUInt64 63)).toInt64 &&& (6148914691236517205 : Int64))).toUInt64 >>> ((2 : Int32).toInt64.toUInt64 &&& Int64.toUInt64 63)).toInt64 &&& (3689348814741910323 : Int64))) + ((((l0 - ((l0.toUInt64 >>> ((1 : Int32).toInt64.toUInt64 &&& Int64.toUInt64 63)).toInt64 &&& (6148914691236517205 : Int64))) &&& (3689348814741910323 : Int64)) + (((l0 - ((l0.toUInt64 >>> ((1 : Int32).toInt64.toUInt64 &&& Int64.toUInt64 63)).toInt64 &&& (6148914691236517205 : Int64))).toUInt64 >>> ((2 : Int32).toInt64.toUInt64 &&& Int64.toUInt64 63)).toInt64 &&& (3689348814741910323 : Int64))).toUInt64 >>> ((4 : Int32).toInt64.toUInt64 &&& Int64.toUInt64 63)).toInt64) &&& (1085102592571150095 : Int64)) + ((((((l0 - ((l0.toUInt64 >>> ((1 : Int32).toInt64.toUInt64 &&& Int64.toUInt64 63)).toInt64 &&& (6148914691236517205 : Int64))) &&& (3689348814741910323 : Int64)) + (((l0 - ((l0.toUInt64 >>> ((1 : Int32).toInt64.toUInt64 &&& Int64.toUInt64 63)).toInt64 &&& (6148914691236517205 : Int64))).toUInt64 >>> ((2 : Int32).toInt64.toUInt64 &&& Int64.toUInt64 63)).toInt64 &&& (3689348814741910323 : Int64))) + ((((l0 - ((l0.toUInt64 >>> ((1 : Int32).toInt64.toUInt64 &&& Int64.toUInt64 63)).toInt64 &&& (6148914691236517205 : Int64))) &&& (3689348814741910323 : Int64)) + (((l0 - ((l0.toUInt64 >>> ((1 : Int32).toInt64.toUInt64 &&& Int64.toUInt64 63)).toInt64 &&& (6148914691236517205 : Int64))).toUInt64 >>> ((2 : Int32).toInt64.toUInt64 &&& Int64.toUInt64 63)).toInt64 &&& (3689348814741910323 : Int64))).toUInt64 >>> ((4 : Int32).toInt64.toUInt64 &&& Int64.toUInt64 63)).toInt64) &&& (1085102592571150095 : Int64)).toUInt64 >>> ((8 : Int32).toInt64.toUInt64 &&& Int64.toUInt64 63)).toInt64) + (((((((l0 - ((l0.toUInt64 >>> ((1 : Int32).toInt64.toUInt64 &&& Int64.toUInt64 63)).toInt64 &&& (6148914691236517205 : Int64))) &&& (3689348814741910323 : Int64)) + (((l0 - ((l0.toUInt64 >>> ((1 : Int32).toInt64.toUInt64 &&& Int64.toUInt64 63)).toInt64 &&& (6148914691236517205 : Int64))).toUInt64 >>> ((2 : Int32).toInt64.toUInt64 &&& Int64.toUInt64 63)).toInt64 &&& (3689348814741910323 : Int64))) + ((((l0 - ((l0.toUInt64 >>> ((1 : Int32).toInt64.toUInt64 &&& Int64.toUInt64 63)).toInt64 &&& (6148914691236517205 : Int64))) &&& (3689348814741910323 : Int64)) + (((l0 - ((l0.toUInt64 >>> ((1 : Int32).toInt64.toUInt64 &&& Int64.toUInt64 63)).toInt64 &&& (6148914691236517205 : Int64))).toUInt64 >>> ((2 : Int32).toInt64.toUInt64 &&& Int64.toUInt64 63)).toInt64 &&& (3689348814741910323 : Int64))).toUInt64 >>> ((4 : Int32).toInt64.toUInt64 &&& Int64.toUInt64 63)).toInt64) &&& (1085102592571150095 : Int64)) + ((((((l0 - ((l0.toUInt64 >>> ((1 : Int32).toInt64.toUInt64 &&& Int64.toUInt64 63)).toInt64 &&& (6148914691236517205 : Int64))) &&& (3689348814741910323 : Int64)) + (((l0 - ((l0.toUInt64 >>> ((1 : Int32).toInt64.toUInt64 &&& Int64.toUInt64 63)).toInt64 &&& (6148914691236517205 : Int64))).toUInt64 >>> ((2 : Int32).toInt64.toUInt64 &&& Int64.toUInt64 63)).toInt64 &&& (3689348814741910323 : Int64))) + ((((l0 - ((l0.toUInt64 >>> ((1 : Int32).toInt64.toUInt64 &&& Int64.toUInt64 63)).toInt64 &&& (6148914691236517205 : Int64))) &&& (3689348814741910323 : Int64)) + (((l0 - ((l0.toUInt64 >>> ((1 : Int32).toInt64.toUInt64 &&& Int64.toUInt64 63)).toInt64 &&& (6148914691236517205 : Int64))).toUInt64 >>> ((2 : Int32).toInt64.toUInt64 &&& Int64.toUInt64 63)).toInt64 &&& (3689348814741910323 : Int64))).toUInt64 >>> ((4 : Int32).toInt64.toUInt64 &&& Int64.toUInt64 63)).toInt64) &&& (1085102592571150095 : Int64)).toUInt64 >>> ((8 : Int32).toInt64.toUInt64 &&& Int64.toUInt64 63)).toInt64).toUInt64 >>> ((16 : Int32).toInt64.toUInt64 &&& Int64.toUInt64 63)).toInt64).toUInt64 >>> ((32 : Int32).toInt64.toUInt64 &&& Int64.toUInt64 63)).toInt64))]) G dJ13_bitCount_95d88_54 rfl (Nat.le_of_ble_eq_true rfl) rfl rfl ?_
  refine w_lload_n (pc2 := 56) G 0 rfl dJ13_bitCount_95d88_55 rfl rfl ?_
  refine w_l2i (pc2 := 57) G dJ13_bitCount_95d88_56 rfl ?_
  refine w_bipush (pc2 := 59) G dJ13_bitCount_95d88_57 k_bipush_127 rfl ?_
  refine w_iand (pc2 := 60) G dJ13_bitCount_95d88_59 rfl ?_
  cases h
  exact w_iret G hQ rfl ⟨rfl, rfl⟩ dJ13_bitCount_95d88_60

set_option maxHeartbeats 4000000 in
set_option maxRecDepth 100000 in
theorem lp_X3_countSeeds_4 {g : CX} {E : EV} {a : Nat → Nat} {o : Nat} {c_count : Int32}  (G : GG g E RX3 cX3_countSeeds 3 (some .int) 1 0 0) : ∀ (n : Nat) (c_seeds : Nat → Int64) (l1 : Int32) (l2 : Int32) (R : Int32), L_X3_countSeeds_4 n c_seeds l1 l2 = some R → WW g E 3 0 0 (wX3 E a o c_count c_seeds) [(1, .int R)] 29 [] → WW g E 3 0 0 (wX3 E a o c_count c_seeds) [(0, .ref (a o)), (1, .int l1), (2, .int l2)] 4 [] := by
  intro n
  induction n with
  | zero => intro c_seeds l1 l2 R h; exact no_some h
  | succ n ih =>
    intro c_seeds l1 l2 R h K
    rw [L_X3_countSeeds_4] at h
    refine w_iload_n (pc2 := 5) G 2 rfl dX3_countSeeds_4 rfl rfl ?_
    refine w_sipush (pc2 := 8) G dX3_countSeeds_5 k_sipush_157 rfl ?_
    refine w_icmp_ge (tgt := 29) (pc2 := 11) G dX3_countSeeds_8 (by decide) rfl (fun cc => ?_) (fun cc => ?_)
    · replace h := (if_pos cc).symm.trans h
      cases h
      exact w_lv [1] rfl K
    · replace h := (if_neg cc).symm.trans h
      refine w_iload_n (pc2 := 12) G 1 rfl dX3_countSeeds_11 rfl rfl ?_
      refine w_aload_n (pc2 := 13) G 0 rfl dX3_countSeeds_12 rfl rfl ?_
      refine w_get (pc2 := 16) G foX3_11 0 rfl rfl dX3_countSeeds_13 rfl ?_
      refine w_iload_n (pc2 := 17) G 2 rfl dX3_countSeeds_16 rfl rfl ?_
      obtain ⟨v1, H_v1, h⟩ := bs h
      refine w_laldo (pc2 := 18) G 1 rfl H_v1 dX3_countSeeds_17 rfl ?_
      obtain ⟨x2, H_x2, h⟩ := bs h
      refine w_cS0 (pc2 := 21) (As := [.long v1]) (rest := [.int l1]) G koX3_36 (r_J13_bitCount_95d88 H_x2) (Nat.le_of_ble_eq_true rfl) rfl rfl (Nat.le_of_ble_eq_true rfl) ⟨Nat.zero_le _, Nat.zero_le _⟩ dX3_countSeeds_18 rfl rfl ?_
      refine w_iadd (pc2 := 22) G dX3_countSeeds_21 rfl ?_
      refine w_istore_n (pc2 := 23) (lv2 := [(1, .int (l1 + x2)), (0, .ref (a o)), (2, .int l2)]) G dX3_countSeeds_22 rfl (Nat.le_of_ble_eq_true rfl) rfl rfl ?_
      refine w_iinc (pc2 := 26) (lv2 := [(2, .int (l2 + (1 : Int32))), (1, .int (l1 + x2)), (0, .ref (a o))]) G 2 rfl dX3_countSeeds_23 k_iconst_1 (Nat.le_of_ble_eq_true rfl) rfl rfl ?_
      refine w_goto (tgt := 4) G dX3_countSeeds_26 (by decide) ?_
      exact w_lv [2, 1, 0] rfl (ih _ _ _ _ h K)
set_option maxHeartbeats 4000000 in
set_option maxRecDepth 100000 in
theorem r_X3_countSeeds {l : Launch} {E : EV} {a : Nat → Nat} {o : Nat} {c_count : Int32} {c_seeds : Nat → Int64}  {R : Int32} (h : f_X3_countSeeds c_seeds = some R) : Ret1 l E yX3_countSeeds cX3_countSeeds 3 (some .int) 1 (wX3 E a o c_count c_seeds) [.ref (a o)] (some (.int R)) (wX3 E a o c_count c_seeds) := by
  refine Ret.intro (lv := [(0, .ref (a o))]) (by decide) (Nat.le_of_ble_eq_true rfl) rfl ?_
  intro g hgl G hQ
  subst hgl
  rw [f_X3_countSeeds] at h
  refine w_iconst (pc2 := 1) G dX3_countSeeds_0 k_iconst_0 rfl ?_
  refine w_istore_n (pc2 := 2) (lv2 := [(1, .int (0 : Int32)), (0, .ref (a o))]) G dX3_countSeeds_1 rfl (Nat.le_of_ble_eq_true rfl) rfl rfl ?_
  refine w_iconst (pc2 := 3) G dX3_countSeeds_2 k_iconst_0 rfl ?_
  refine w_istore_n (pc2 := 4) (lv2 := [(2, .int (0 : Int32)), (1, .int (0 : Int32)), (0, .ref (a o))]) G dX3_countSeeds_3 rfl (Nat.le_of_ble_eq_true rfl) rfl rfl ?_
  obtain ⟨x1, h0, h⟩ := bs h
  have K_x1 : WW g E 3 0 0 (wX3 E a o c_count c_seeds) [(1, .int x1)] 29 [] := by
    clear h0
    refine w_iload_n (pc2 := 30) G 0 rfl dX3_countSeeds_29 rfl rfl ?_
    cases h
    exact w_iret G hQ rfl ⟨rfl, rfl⟩ dX3_countSeeds_30
  exact w_lv [2, 1, 0] rfl (lp_X3_countSeeds_4 G 20000 _ _ _ _ h0 (w_lv [0] rfl K_x1))

set_option maxHeartbeats 4000000 in
set_option maxRecDepth 100000 in
theorem lp_X3_pickBit_5 {g : CX} {E : EV}   (G : GG g E RX3 cX3_pickBit 5 (some .int) 0 0 0) {R : Int32}  (hQ : RQ g E 0 0 (fun v2 w2 => v2 = (some (.int R)) ∧ w2 = [])) : ∀ (n : Nat) (l0 : Int64) (l3 : Int32) (l4 : Int32), L_X3_pickBit_5 n l0 l3 l4 = some R → WW g E 5 0 0 [] [(0, .long l0), (3, .int l3), (4, .int l4)] 5 [] := by
  intro n
  induction n with
  | zero => intro l0 l3 l4 h; exact no_some h
  | succ n ih =>
    intro l0 l3 l4 h
    rw [L_X3_pickBit_5] at h
    refine w_iload (pc2 := 7) G 2 rfl dX3_pickBit_5 rfl ?_
    refine w_bipush (pc2 := 9) G dX3_pickBit_7 k_bipush_64 rfl ?_
    refine w_icmp_ge (tgt := 39) (pc2 := 12) G dX3_pickBit_9 (by decide) rfl (fun cc => ?_) (fun cc => ?_)
    · replace h := (if_pos cc).symm.trans h
      refine w_iconst (pc2 := 40) G dX3_pickBit_39 k_iconst_0 rfl ?_
      cases h
      exact w_iret G hQ rfl ⟨rfl, rfl⟩ dX3_pickBit_40
    · replace h := (if_neg cc).symm.trans h
      refine w_lload_n (pc2 := 13) G 0 rfl dX3_pickBit_12 rfl rfl ?_
      refine w_iload (pc2 := 15) G 2 rfl dX3_pickBit_13 rfl ?_
      refine w_lushr (pc2 := 16) G dX3_pickBit_15 rfl ?_
      refine w_lconst (pc2 := 17) G dX3_pickBit_16 k_lconst_1 rfl ?_
      refine w_land (pc2 := 18) G dX3_pickBit_17 rfl ?_
      refine w_lconst (pc2 := 19) G dX3_pickBit_18 k_lconst_0 rfl ?_
      refine w_lcmp (pc2 := 20) G dX3_pickBit_19 rfl ?_
      refine w_if_eq (tgt := 33) (pc2 := 23) G dX3_pickBit_20 (by decide) rfl (fun cc => ?_) (fun cc => ?_)
      · replace h := (if_pos cc).symm.trans h
        refine w_iinc (pc2 := 36) (lv2 := [(4, .int (l4 + (1 : Int32))), (0, .long l0), (3, .int l3)]) G 2 rfl dX3_pickBit_33 k_iconst_1 (Nat.le_of_ble_eq_true rfl) rfl rfl ?_
        refine w_goto (tgt := 5) G dX3_pickBit_36 (by decide) ?_
        exact w_lv [1, 2, 0] rfl (ih _ _ _ h )
      · replace h := (if_neg cc).symm.trans h
        refine w_iload_n (pc2 := 24) G 1 rfl dX3_pickBit_23 rfl rfl ?_
        refine w_if_ne (tgt := 30) (pc2 := 27) G dX3_pickBit_24 (by decide) rfl (fun cc => ?_) (fun cc => ?_)
        · replace h := (if_neg cc).symm.trans h
          refine w_iinc (pc2 := 33) (lv2 := [(3, .int (l3 + (-1 : Int32))), (0, .long l0), (4, .int l4)]) G 1 rfl dX3_pickBit_30 k_iconst_m1 (Nat.le_of_ble_eq_true rfl) rfl rfl ?_
          refine w_iinc (pc2 := 36) (lv2 := [(4, .int (l4 + (1 : Int32))), (3, .int (l3 + (-1 : Int32))), (0, .long l0)]) G 2 rfl dX3_pickBit_33 k_iconst_1 (Nat.le_of_ble_eq_true rfl) rfl rfl ?_
          refine w_goto (tgt := 5) G dX3_pickBit_36 (by decide) ?_
          exact w_lv [2, 1, 0] rfl (ih _ _ _ h )
        · replace h := (if_pos cc).symm.trans h
          refine w_iload (pc2 := 29) G 2 rfl dX3_pickBit_27 rfl ?_
          cases h
          exact w_iret G hQ rfl ⟨rfl, rfl⟩ dX3_pickBit_29
set_option maxHeartbeats 4000000 in
set_option maxRecDepth 100000 in
theorem r_X3_pickBit {l : Launch} {E : EV}  {l0 : Int64} {l2 : Int32} {R : Int32} (h : f_X3_pickBit l0 l2 = some R) : Ret1 l E yX3_pickBit cX3_pickBit 5 (some .int) 0 [] [.long l0, .int l2] (some (.int R)) [] := by
  refine Ret.intro (lv := [(0, .long l0), (2, .int l2)]) (by decide) (Nat.le_of_ble_eq_true rfl) rfl ?_
  intro g hgl G hQ
  subst hgl
  rw [f_X3_pickBit] at h
  refine w_iload_n (pc2 := 1) G 1 rfl dX3_pickBit_0 rfl rfl ?_
  refine w_istore_n (pc2 := 2) (lv2 := [(3, .int l2), (0, .long l0), (2, .int l2)]) G dX3_pickBit_1 rfl (Nat.le_of_ble_eq_true rfl) rfl rfl ?_
  refine w_iconst (pc2 := 3) G dX3_pickBit_2 k_iconst_0 rfl ?_
  refine w_istore (pc2 := 5) (lv2 := [(4, .int (0 : Int32)), (3, .int l2), (0, .long l0), (2, .int l2)]) G dX3_pickBit_3 (Nat.le_of_ble_eq_true rfl) rfl rfl ?_
  exact w_lv [2, 1, 0] rfl (lp_X3_pickBit_5 G hQ 20000 _ _ _ h)

set_option maxHeartbeats 4000000 in
set_option maxRecDepth 100000 in
theorem lp_X3_pickSeed_11 {g : CX} {E : EV} {a : Nat → Nat} {o : Nat} {c_count : Int32}  (G : GG g E RX3 cX3_pickSeed 5 (some .int) 1 0 0) {R : Int32} {c_seeds : Nat → Int64} (hQ : RQ g E 0 0 (fun v2 w2 => v2 = (some (.int R)) ∧ w2 = (wX3 E a o c_count c_seeds))) : ∀ (n : Nat) (l2 : Int32) (l3 : Int32), L_X3_pickSeed_11 n c_seeds l2 l3 = some R → WW g E 5 0 0 (wX3 E a o c_count c_seeds) [(0, .ref (a o)), (2, .int l2), (3, .int l3)] 11 [] := by
  intro n
  induction n with
  | zero => intro l2 l3 h; exact no_some h
  | succ n ih =>
    intro l2 l3 h
    rw [L_X3_pickSeed_11] at h
    refine w_iload_n (pc2 := 12) G 2 rfl dX3_pickSeed_11 rfl rfl ?_
    refine w_sipush (pc2 := 15) G dX3_pickSeed_12 k_sipush_157 rfl ?_
    refine w_icmp_ge (tgt := 62) (pc2 := 18) G dX3_pickSeed_15 (by decide) rfl (fun cc => ?_) (fun cc => ?_)
    · replace h := (if_pos cc).symm.trans h
      refine w_bipush (pc2 := 64) G dX3_pickSeed_62 k_bipush_m6 rfl ?_
      cases h
      exact w_iret G hQ rfl ⟨rfl, rfl⟩ dX3_pickSeed_64
    · replace h := (if_neg cc).symm.trans h
      refine w_aload_n (pc2 := 19) G 0 rfl dX3_pickSeed_18 rfl rfl ?_
      refine w_get (pc2 := 22) G foX3_11 0 rfl rfl dX3_pickSeed_19 rfl ?_
      refine w_iload_n (pc2 := 23) G 2 rfl dX3_pickSeed_22 rfl rfl ?_
      obtain ⟨v1, H_v1, h⟩ := bs h
      refine w_laldo (pc2 := 24) G 1 rfl H_v1 dX3_pickSeed_23 rfl ?_
      obtain ⟨x2, H_x2, h⟩ := bs h
      refine w_cS0 (pc2 := 27) (As := [.long v1]) (rest := []) G koX3_36 (r_J13_bitCount_95d88 H_x2) (Nat.le_of_ble_eq_true rfl) rfl rfl (Nat.le_of_ble_eq_true rfl) ⟨Nat.zero_le _, Nat.zero_le _⟩ dX3_pickSeed_24 rfl rfl ?_
      refine w_istore (pc2 := 29) (lv2 := [(4, .int x2), (0, .ref (a o)), (2, .int l2), (3, .int l3)]) G dX3_pickSeed_27 (Nat.le_of_ble_eq_true rfl) rfl rfl ?_
      refine w_iload_n (pc2 := 30) G 2 rfl dX3_pickSeed_29 rfl rfl ?_
      refine w_iload (pc2 := 32) G 0 rfl dX3_pickSeed_30 rfl ?_
      refine w_icmp_ge (tgt := 51) (pc2 := 35) G dX3_pickSeed_32 (by decide) rfl (fun cc => ?_) (fun cc => ?_)
      · replace h := (if_pos cc).symm.trans h
        refine w_iload_n (pc2 := 52) G 2 rfl dX3_pickSeed_51 rfl rfl ?_
        refine w_iload (pc2 := 54) G 0 rfl dX3_pickSeed_52 rfl ?_
        refine w_isub (pc2 := 55) G dX3_pickSeed_54 rfl ?_
        refine w_istore_n (pc2 := 56) (lv2 := [(2, .int (l2 - x2)), (4, .int x2), (0, .ref (a o)), (3, .int l3)]) G dX3_pickSeed_55 rfl (Nat.le_of_ble_eq_true rfl) rfl rfl ?_
        refine w_iinc (pc2 := 59) (lv2 := [(3, .int (l3 + (1 : Int32))), (2, .int (l2 - x2)), (4, .int x2), (0, .ref (a o))]) G 3 rfl dX3_pickSeed_56 k_iconst_1 (Nat.le_of_ble_eq_true rfl) rfl rfl ?_
        refine w_goto (tgt := 11) G dX3_pickSeed_59 (by decide) ?_
        exact w_lv [3, 1, 0] rfl (ih _ _ h )
      · replace h := (if_neg cc).symm.trans h
        refine w_bipush (pc2 := 37) G dX3_pickSeed_35 k_bipush_64 rfl ?_
        refine w_iload_n (pc2 := 38) G 3 rfl dX3_pickSeed_37 rfl rfl ?_
        refine w_imul (pc2 := 39) G dX3_pickSeed_38 rfl ?_
        refine w_aload_n (pc2 := 40) G 1 rfl dX3_pickSeed_39 rfl rfl ?_
        refine w_get (pc2 := 43) G foX3_11 0 rfl rfl dX3_pickSeed_40 rfl ?_
        refine w_iload_n (pc2 := 44) G 3 rfl dX3_pickSeed_43 rfl rfl ?_
        obtain ⟨v3, H_v3, h⟩ := bs h
        refine w_laldo (pc2 := 45) G 1 rfl H_v3 dX3_pickSeed_44 rfl ?_
        refine w_iload_n (pc2 := 46) G 2 rfl dX3_pickSeed_45 rfl rfl ?_
        obtain ⟨x4, H_x4, h⟩ := bs h
        refine w_cS0 (pc2 := 49) (As := [.long v3, .int l2]) (rest := [.int ((64 : Int32) * l3)]) G koX3_42 (r_X3_pickBit H_x4) (Nat.le_of_ble_eq_true rfl) rfl rfl (Nat.le_of_ble_eq_true rfl) ⟨Nat.zero_le _, Nat.zero_le _⟩ dX3_pickSeed_46 rfl rfl ?_
        refine w_iadd (pc2 := 50) G dX3_pickSeed_49 rfl ?_
        cases h
        exact w_iret G hQ rfl ⟨rfl, rfl⟩ dX3_pickSeed_50
set_option maxHeartbeats 4000000 in
set_option maxRecDepth 100000 in
theorem r_X3_pickSeed {l : Launch} {E : EV} {a : Nat → Nat} {o : Nat} {c_count : Int32} {c_seeds : Nat → Int64} {l1 : Int32} {R : Int32} (h : f_X3_pickSeed c_seeds l1 = some R) : Ret1 l E yX3_pickSeed cX3_pickSeed 5 (some .int) 1 (wX3 E a o c_count c_seeds) [.ref (a o), .int l1] (some (.int R)) (wX3 E a o c_count c_seeds) := by
  refine Ret.intro (lv := [(0, .ref (a o)), (1, .int l1)]) (by decide) (Nat.le_of_ble_eq_true rfl) rfl ?_
  intro g hgl G hQ
  subst hgl
  rw [f_X3_pickSeed] at h
  refine w_iload_n (pc2 := 1) G 1 rfl dX3_pickSeed_0 rfl rfl ?_
  refine w_if_ge (tgt := 7) (pc2 := 4) G dX3_pickSeed_1 (by decide) rfl (fun cc => ?_) (fun cc => ?_)
  · replace h := (if_pos cc).symm.trans h
    refine w_iload_n (pc2 := 8) G 1 rfl dX3_pickSeed_7 rfl rfl ?_
    refine w_istore_n (pc2 := 9) (lv2 := [(2, .int l1), (0, .ref (a o)), (1, .int l1)]) G dX3_pickSeed_8 rfl (Nat.le_of_ble_eq_true rfl) rfl rfl ?_
    refine w_iconst (pc2 := 10) G dX3_pickSeed_9 k_iconst_0 rfl ?_
    refine w_istore_n (pc2 := 11) (lv2 := [(3, .int (0 : Int32)), (2, .int l1), (0, .ref (a o)), (1, .int l1)]) G dX3_pickSeed_10 rfl (Nat.le_of_ble_eq_true rfl) rfl rfl ?_
    exact w_lv [2, 1, 0] rfl (lp_X3_pickSeed_11 G hQ 20000 _ _ h)
  · replace h := (if_neg cc).symm.trans h
    refine w_bipush (pc2 := 6) G dX3_pickSeed_4 k_bipush_m6 rfl ?_
    cases h
    exact w_iret G hQ rfl ⟨rfl, rfl⟩ dX3_pickSeed_6

set_option maxHeartbeats 4000000 in
set_option maxRecDepth 100000 in
theorem lp_X4_price_11 {g : CX} {E : EV} {a : Nat → Nat} {o : Nat} {c_left c_right c_parent : Nat → Int32} {c_span : Nat → Int64} {c_root : Int32} {c_digest c_height : Nat → Int32} {c_pricedBy : Int32} {c_open : Nat → Int32}  (G : GG g E RX4 cX4_price 3 none 1 0 0) : ∀ (n : Nat) (c_priority : Nat → Int32) (l1 : Int32) (l2 : Int32) (R : (Nat → Int32)), L_X4_price_11 n c_priority l1 l2 = some R → WW g E 3 0 0 (wX4 E a o c_left c_right c_parent c_span c_root c_digest c_height R c_pricedBy c_open) [(0, .ref (a o)), (1, .int l1)] 34 [] → WW g E 3 0 0 (wX4 E a o c_left c_right c_parent c_span c_root c_digest c_height c_priority c_pricedBy c_open) [(0, .ref (a o)), (1, .int l1), (2, .int l2)] 11 [] := by
  intro n
  induction n with
  | zero => intro c_priority l1 l2 R h; exact no_some h
  | succ n ih =>
    intro c_priority l1 l2 R h K
    rw [L_X4_price_11] at h
    refine w_iload_n (pc2 := 12) G 2 rfl dX4_price_11 rfl rfl ?_
    refine w_bipush (pc2 := 14) G dX4_price_12 k_bipush_50 rfl ?_
    refine w_icmp_ge (tgt := 34) (pc2 := 17) G dX4_price_14 (by decide) rfl (fun cc => ?_) (fun cc => ?_)
    · replace h := (if_pos cc).symm.trans h
      cases h
      exact w_lv [0, 1] rfl K
    · replace h := (if_neg cc).symm.trans h
      refine w_aload_n (pc2 := 18) G 0 rfl dX4_price_17 rfl rfl ?_
      refine w_get (pc2 := 21) G foX4_31 0 rfl rfl dX4_price_18 rfl ?_
      refine w_iload_n (pc2 := 22) G 2 rfl dX4_price_21 rfl rfl ?_
      refine w_iload_n (pc2 := 23) G 1 rfl dX4_price_22 rfl rfl ?_
      refine w_iload_n (pc2 := 24) G 2 rfl dX4_price_23 rfl rfl ?_
      obtain ⟨x1, H_x1, h⟩ := bs h
      refine w_cS0N (pc2 := 27) (As := [.int l1, .int l2]) (rest := [.int l2, .ref (a (o + 7))]) G koX4_55 (r_X7_priority H_x1) (Nat.le_of_ble_eq_true rfl) rfl rfl (Nat.le_of_ble_eq_true rfl) ⟨Nat.zero_le _, Nat.zero_le _⟩ dX4_price_24 rfl rfl ?_
      obtain ⟨f2, H_f2, h⟩ := bs h
      refine w_iasto (pc2 := 28) (ws2 := (wX4 E a o c_left c_right c_parent c_span c_root c_digest c_height f2 c_pricedBy c_open)) G 7 rfl H_f2 rfl dX4_price_27 rfl ?_
      refine w_iinc (pc2 := 31) (lv2 := [(2, .int (l2 + (1 : Int32))), (0, .ref (a o)), (1, .int l1)]) G 2 rfl dX4_price_28 k_iconst_1 (Nat.le_of_ble_eq_true rfl) rfl rfl ?_
      refine w_goto (tgt := 11) G dX4_price_31 (by decide) ?_
      exact w_lv [1, 2, 0] rfl (ih _ _ _ _ h K)
set_option maxHeartbeats 4000000 in
set_option maxRecDepth 100000 in
theorem r_X4_price {l : Launch} {E : EV} {a : Nat → Nat} {o : Nat} {c_left c_right c_parent : Nat → Int32} {c_span : Nat → Int64} {c_root : Int32} {c_digest c_height c_priority : Nat → Int32} {c_pricedBy : Int32} {c_open : Nat → Int32} {l1 : Int32} {R : (Nat → Int32) × Int32} (h : f_X4_price c_priority c_pricedBy l1 = some R) : Ret1 l E yX4_price cX4_price 3 none 1 (wX4 E a o c_left c_right c_parent c_span c_root c_digest c_height c_priority c_pricedBy c_open) [.ref (a o), .int l1] none (wX4 E a o c_left c_right c_parent c_span c_root c_digest c_height R.1 R.2 c_open) := by
  refine Ret.intro (lv := [(0, .ref (a o)), (1, .int l1)]) (by decide) (Nat.le_of_ble_eq_true rfl) rfl ?_
  intro g hgl G hQ
  subst hgl
  rw [f_X4_price] at h
  refine w_iload_n (pc2 := 1) G 1 rfl dX4_price_0 rfl rfl ?_
  refine w_aload_n (pc2 := 2) G 0 rfl dX4_price_1 rfl rfl ?_
  refine w_get (pc2 := 5) G foX4_34 0 rfl rfl dX4_price_2 rfl ?_
  refine w_icmp_ne (tgt := 9) (pc2 := 8) G dX4_price_5 (by decide) rfl (fun cc => ?_) (fun cc => ?_)
  · replace h := (if_neg cc).symm.trans h
    refine w_iconst (pc2 := 10) G dX4_price_9 k_iconst_0 rfl ?_
    refine w_istore_n (pc2 := 11) (lv2 := [(2, .int (0 : Int32)), (0, .ref (a o)), (1, .int l1)]) G dX4_price_10 rfl (Nat.le_of_ble_eq_true rfl) rfl rfl ?_
    obtain ⟨x1, h0, h⟩ := bs h
    have K_x1 : WW g E 3 0 0 (wX4 E a o c_left c_right c_parent c_span c_root c_digest c_height x1 c_pricedBy c_open) [(0, .ref (a o)), (1, .int l1)] 34 [] := by
      clear h0
      refine w_aload_n (pc2 := 35) G 0 rfl dX4_price_34 rfl rfl ?_
      refine w_iload_n (pc2 := 36) G 1 rfl dX4_price_35 rfl rfl ?_
      refine w_put (pc2 := 39) (ws2 := (wX4 E a o c_left c_right c_parent c_span c_root c_digest c_height x1 l1 c_open)) G foX4_34 tokX4 0 rfl rfl rfl rfl (Nat.le_of_ble_eq_true rfl) rfl dX4_price_36 rfl ?_
      cases h
      exact w_vret G hQ rfl ⟨rfl, rfl⟩ dX4_price_39
    exact w_lv [1, 2, 0] rfl (lp_X4_price_11 G 20000 _ _ _ _ h0 (w_lv [0, 1] rfl K_x1))
  · replace h := (if_pos cc).symm.trans h
    cases h
    exact w_vret G hQ rfl ⟨rfl, rfl⟩ dX4_price_8

set_option maxHeartbeats 4000000 in
set_option maxRecDepth 100000 in
theorem r_X7_bit {l : Launch} {E : EV}  {l0 : Int32} {R : Int64} (h : f_X7_bit l0 = some R) : Ret1 l E yX7_bit cX7_bit 1 (some .long) 0 [] [.int l0] (some (.long R)) [] := by
  refine Ret.intro (lv := [(0, .int l0)]) (by decide) (Nat.le_of_ble_eq_true rfl) rfl ?_
  intro g hgl G hQ
  subst hgl
  rw [f_X7_bit] at h
  refine w_lconst (pc2 := 1) G dX7_bit_0 k_lconst_1 rfl ?_
  refine w_iload_n (pc2 := 2) G 0 rfl dX7_bit_1 rfl rfl ?_
  refine w_lshl (pc2 := 3) G dX7_bit_2 rfl ?_
  cases h
  exact w_lret G hQ rfl ⟨rfl, rfl⟩ dX7_bit_3

set_option maxHeartbeats 4000000 in
set_option maxRecDepth 100000 in
theorem r_X7_isIn {l : Launch} {E : EV}  {l0 : Int64} {l2 : Int32} {R : Int32} (h : f_X7_isIn l0 l2 = some R) : Ret1 l E yX7_isIn cX7_isIn 3 (some .boolean) 1 [] [.long l0, .int l2] (some (.int R)) [] := by
  refine Ret.intro (lv := [(0, .long l0), (2, .int l2)]) (by decide) (Nat.le_of_ble_eq_true rfl) rfl ?_
  intro g hgl G hQ
  subst hgl
  rw [f_X7_isIn] at h
  refine w_lload_n (pc2 := 1) G 0 rfl dX7_isIn_0 rfl rfl ?_
  refine w_iload_n (pc2 := 2) G 1 rfl dX7_isIn_1 rfl rfl ?_
  obtain ⟨x1, H_x1, h⟩ := bs h
  refine w_cS0 (pc2 := 5) (As := [.int l2]) (rest := [.long l0]) G koX7_91 (r_X7_bit H_x1) (Nat.le_of_ble_eq_true rfl) rfl rfl (Nat.le_of_ble_eq_true rfl) ⟨Nat.zero_le _, Nat.zero_le _⟩ dX7_isIn_2 rfl rfl ?_
  refine w_land (pc2 := 6) G dX7_isIn_5 rfl ?_
  refine w_lconst (pc2 := 7) G dX7_isIn_6 k_lconst_0 rfl ?_
  refine w_lcmp (pc2 := 8) G dX7_isIn_7 rfl ?_
  refine w_if_eq (tgt := 15) (pc2 := 11) G dX7_isIn_8 (by decide) rfl (fun cc => ?_) (fun cc => ?_)
  · replace h := (if_pos cc).symm.trans h
    refine w_iconst (pc2 := 16) G dX7_isIn_15 k_iconst_0 rfl ?_
    cases h
    exact w_zret G hQ rfl (Or.inl rfl) ⟨rfl, rfl⟩ dX7_isIn_16
  · replace h := (if_neg cc).symm.trans h
    refine w_iconst (pc2 := 12) G dX7_isIn_11 k_iconst_1 rfl ?_
    refine w_goto (tgt := 16) G dX7_isIn_12 (by decide) ?_
    cases h
    exact w_zret G hQ rfl (Or.inr rfl) ⟨rfl, rfl⟩ dX7_isIn_16

set_option maxHeartbeats 4000000 in
set_option maxRecDepth 100000 in
theorem r_X4_spanBelow {l : Launch} {E : EV} {a : Nat → Nat} {o : Nat} {c_left c_right c_parent : Nat → Int32} {c_span : Nat → Int64} {c_root : Int32} {c_digest c_height c_priority : Nat → Int32} {c_pricedBy : Int32} {c_open : Nat → Int32} {l1 : Int32} {R : Int64} (h : f_X4_spanBelow c_span l1 = some R) : Ret1 l E yX4_spanBelow cX4_spanBelow 2 (some .long) 0 (wX4 E a o c_left c_right c_parent c_span c_root c_digest c_height c_priority c_pricedBy c_open) [.ref (a o), .int l1] (some (.long R)) (wX4 E a o c_left c_right c_parent c_span c_root c_digest c_height c_priority c_pricedBy c_open) := by
  refine Ret.intro (lv := [(0, .ref (a o)), (1, .int l1)]) (by decide) (Nat.le_of_ble_eq_true rfl) rfl ?_
  intro g hgl G hQ
  subst hgl
  rw [f_X4_spanBelow] at h
  refine w_iload_n (pc2 := 1) G 1 rfl dX4_spanBelow_0 rfl rfl ?_
  refine w_if_lt (tgt := 13) (pc2 := 4) G dX4_spanBelow_1 (by decide) rfl (fun cc => ?_) (fun cc => ?_)
  · replace h := (if_pos cc).symm.trans h
    refine w_lconst (pc2 := 14) G dX4_spanBelow_13 k_lconst_0 rfl ?_
    cases h
    exact w_lret G hQ rfl ⟨rfl, rfl⟩ dX4_spanBelow_14
  · replace h := (if_neg cc).symm.trans h
    refine w_aload_n (pc2 := 5) G 0 rfl dX4_spanBelow_4 rfl rfl ?_
    refine w_get (pc2 := 8) G foX4_21 0 rfl rfl dX4_spanBelow_5 rfl ?_
    refine w_iload_n (pc2 := 9) G 1 rfl dX4_spanBelow_8 rfl rfl ?_
    obtain ⟨v1, H_v1, h⟩ := bs h
    refine w_laldo (pc2 := 10) G 4 rfl H_v1 dX4_spanBelow_9 rfl ?_
    refine w_goto (tgt := 14) G dX4_spanBelow_10 (by decide) ?_
    cases h
    exact w_lret G hQ rfl ⟨rfl, rfl⟩ dX4_spanBelow_14

set_option maxHeartbeats 4000000 in
set_option maxRecDepth 100000 in
theorem r_X4_heightBelow {l : Launch} {E : EV} {a : Nat → Nat} {o : Nat} {c_left c_right c_parent : Nat → Int32} {c_span : Nat → Int64} {c_root : Int32} {c_digest c_height c_priority : Nat → Int32} {c_pricedBy : Int32} {c_open : Nat → Int32} {l1 : Int32} {R : Int32} (h : f_X4_heightBelow c_height l1 = some R) : Ret1 l E yX4_heightBelow cX4_heightBelow 2 (some .int) 0 (wX4 E a o c_left c_right c_parent c_span c_root c_digest c_height c_priority c_pricedBy c_open) [.ref (a o), .int l1] (some (.int R)) (wX4 E a o c_left c_right c_parent c_span c_root c_digest c_height c_priority c_pricedBy c_open) := by
  refine Ret.intro (lv := [(0, .ref (a o)), (1, .int l1)]) (by decide) (Nat.le_of_ble_eq_true rfl) rfl ?_
  intro g hgl G hQ
  subst hgl
  rw [f_X4_heightBelow] at h
  refine w_iload_n (pc2 := 1) G 1 rfl dX4_heightBelow_0 rfl rfl ?_
  refine w_if_lt (tgt := 13) (pc2 := 4) G dX4_heightBelow_1 (by decide) rfl (fun cc => ?_) (fun cc => ?_)
  · replace h := (if_pos cc).symm.trans h
    refine w_iconst (pc2 := 14) G dX4_heightBelow_13 k_iconst_0 rfl ?_
    cases h
    exact w_iret G hQ rfl ⟨rfl, rfl⟩ dX4_heightBelow_14
  · replace h := (if_neg cc).symm.trans h
    refine w_aload_n (pc2 := 5) G 0 rfl dX4_heightBelow_4 rfl rfl ?_
    refine w_get (pc2 := 8) G foX4_28 0 rfl rfl dX4_heightBelow_5 rfl ?_
    refine w_iload_n (pc2 := 9) G 1 rfl dX4_heightBelow_8 rfl rfl ?_
    obtain ⟨v1, H_v1, h⟩ := bs h
    refine w_ialdo (pc2 := 10) G 6 rfl H_v1 dX4_heightBelow_9 rfl ?_
    refine w_goto (tgt := 14) G dX4_heightBelow_10 (by decide) ?_
    cases h
    exact w_iret G hQ rfl ⟨rfl, rfl⟩ dX4_heightBelow_14

set_option maxHeartbeats 4000000 in
set_option maxRecDepth 100000 in
theorem r_X4_digestBelow {l : Launch} {E : EV} {a : Nat → Nat} {o : Nat} {c_left c_right c_parent : Nat → Int32} {c_span : Nat → Int64} {c_root : Int32} {c_digest c_height c_priority : Nat → Int32} {c_pricedBy : Int32} {c_open : Nat → Int32} {l1 : Int32} {R : Int32} (h : f_X4_digestBelow c_digest l1 = some R) : Ret1 l E yX4_digestBelow cX4_digestBelow 2 (some .int) 0 (wX4 E a o c_left c_right c_parent c_span c_root c_digest c_height c_priority c_pricedBy c_open) [.ref (a o), .int l1] (some (.int R)) (wX4 E a o c_left c_right c_parent c_span c_root c_digest c_height c_priority c_pricedBy c_open) := by
  refine Ret.intro (lv := [(0, .ref (a o)), (1, .int l1)]) (by decide) (Nat.le_of_ble_eq_true rfl) rfl ?_
  intro g hgl G hQ
  subst hgl
  rw [f_X4_digestBelow] at h
  refine w_iload_n (pc2 := 1) G 1 rfl dX4_digestBelow_0 rfl rfl ?_
  refine w_if_lt (tgt := 13) (pc2 := 4) G dX4_digestBelow_1 (by decide) rfl (fun cc => ?_) (fun cc => ?_)
  · replace h := (if_pos cc).symm.trans h
    refine w_iconst (pc2 := 14) G dX4_digestBelow_13 k_iconst_0 rfl ?_
    cases h
    exact w_iret G hQ rfl ⟨rfl, rfl⟩ dX4_digestBelow_14
  · replace h := (if_neg cc).symm.trans h
    refine w_aload_n (pc2 := 5) G 0 rfl dX4_digestBelow_4 rfl rfl ?_
    refine w_get (pc2 := 8) G foX4_25 0 rfl rfl dX4_digestBelow_5 rfl ?_
    refine w_iload_n (pc2 := 9) G 1 rfl dX4_digestBelow_8 rfl rfl ?_
    obtain ⟨v1, H_v1, h⟩ := bs h
    refine w_ialdo (pc2 := 10) G 5 rfl H_v1 dX4_digestBelow_9 rfl ?_
    refine w_goto (tgt := 14) G dX4_digestBelow_10 (by decide) ?_
    cases h
    exact w_iret G hQ rfl ⟨rfl, rfl⟩ dX4_digestBelow_14

set_option maxHeartbeats 4000000 in
set_option maxRecDepth 100000 in
theorem r_X4_finish {l : Launch} {E : EV} {a : Nat → Nat} {o : Nat} {c_left c_right c_parent : Nat → Int32} {c_span : Nat → Int64} {c_root : Int32} {c_digest c_height c_priority : Nat → Int32} {c_pricedBy : Int32} {c_open : Nat → Int32} {l1 : Int32} {R : (Nat → Int32) × (Nat → Int64) × (Nat → Int32) × (Nat → Int32)} (h : f_X4_finish c_left c_right c_parent c_span c_digest c_height l1 = some R) : Ret1 l E yX4_finish cX4_finish 4 none 1 (wX4 E a o c_left c_right c_parent c_span c_root c_digest c_height c_priority c_pricedBy c_open) [.ref (a o), .int l1] none (wX4 E a o c_left c_right R.1 R.2.1 c_root R.2.2.1 R.2.2.2 c_priority c_pricedBy c_open) := by
  refine Ret.intro (lv := [(0, .ref (a o)), (1, .int l1)]) (by decide) (Nat.le_of_ble_eq_true rfl) rfl ?_
  intro g hgl G hQ
  subst hgl
  rw [f_X4_finish] at h
  refine w_aload_n (pc2 := 1) G 0 rfl dX4_finish_0 rfl rfl ?_
  refine w_get (pc2 := 4) G foX4_9 0 rfl rfl dX4_finish_1 rfl ?_
  refine w_iload_n (pc2 := 5) G 1 rfl dX4_finish_4 rfl rfl ?_
  obtain ⟨v1, H_v1, h⟩ := bs h
  refine w_ialdo (pc2 := 6) G 1 rfl H_v1 dX4_finish_5 rfl ?_
  refine w_istore_n (pc2 := 7) (lv2 := [(2, .int v1), (0, .ref (a o)), (1, .int l1)]) G dX4_finish_6 rfl (Nat.le_of_ble_eq_true rfl) rfl rfl ?_
  refine w_aload_n (pc2 := 8) G 1 rfl dX4_finish_7 rfl rfl ?_
  refine w_get (pc2 := 11) G foX4_15 0 rfl rfl dX4_finish_8 rfl ?_
  refine w_iload_n (pc2 := 12) G 2 rfl dX4_finish_11 rfl rfl ?_
  obtain ⟨v2, H_v2, h⟩ := bs h
  refine w_ialdo (pc2 := 13) G 2 rfl H_v2 dX4_finish_12 rfl ?_
  refine w_istore_n (pc2 := 14) (lv2 := [(3, .int v2), (2, .int v1), (0, .ref (a o)), (1, .int l1)]) G dX4_finish_13 rfl (Nat.le_of_ble_eq_true rfl) rfl rfl ?_
  refine w_aload_n (pc2 := 15) G 2 rfl dX4_finish_14 rfl rfl ?_
  refine w_get (pc2 := 18) G foX4_21 0 rfl rfl dX4_finish_15 rfl ?_
  refine w_iload_n (pc2 := 19) G 3 rfl dX4_finish_18 rfl rfl ?_
  refine w_iload_n (pc2 := 20) G 3 rfl dX4_finish_19 rfl rfl ?_
  obtain ⟨x3, H_x3, h⟩ := bs h
  refine w_cS0N (pc2 := 23) (As := [.int l1]) (rest := [.int l1, .ref (a (o + 4))]) G koX4_58 (r_X7_bit H_x3) (Nat.le_of_ble_eq_true rfl) rfl rfl (Nat.le_of_ble_eq_true rfl) ⟨Nat.zero_le _, Nat.zero_le _⟩ dX4_finish_20 rfl rfl ?_
  refine w_aload_n (pc2 := 24) G 2 rfl dX4_finish_23 rfl rfl ?_
  refine w_iload_n (pc2 := 25) G 1 rfl dX4_finish_24 rfl rfl ?_
  obtain ⟨x4, H_x4, h⟩ := bs h
  refine w_cV0 (pc2 := 28) (ws2 := (wX4 E a o c_left c_right c_parent c_span c_root c_digest c_height c_priority c_pricedBy c_open)) (As := [.int v1]) (rest := [.long x3, .int l1, .ref (a (o + 4))]) G koX4_62 (r_X4_spanBelow H_x4) (Nat.le_of_ble_eq_true rfl) 4 rfl rfl rfl rfl (Nat.le_of_ble_eq_true rfl) ⟨Nat.zero_le _, Nat.zero_le _⟩ dX4_finish_25 rfl rfl ?_
  refine w_lor (pc2 := 29) G dX4_finish_28 rfl ?_
  refine w_aload_n (pc2 := 30) G 2 rfl dX4_finish_29 rfl rfl ?_
  refine w_iload_n (pc2 := 31) G 0 rfl dX4_finish_30 rfl rfl ?_
  obtain ⟨x5, H_x5, h⟩ := bs h
  refine w_cV0 (pc2 := 34) (ws2 := (wX4 E a o c_left c_right c_parent c_span c_root c_digest c_height c_priority c_pricedBy c_open)) (As := [.int v2]) (rest := [.long (x3 ||| x4), .int l1, .ref (a (o + 4))]) G koX4_62 (r_X4_spanBelow H_x5) (Nat.le_of_ble_eq_true rfl) 4 rfl rfl rfl rfl (Nat.le_of_ble_eq_true rfl) ⟨Nat.zero_le _, Nat.zero_le _⟩ dX4_finish_31 rfl rfl ?_
  refine w_lor (pc2 := 35) G dX4_finish_34 rfl ?_
  obtain ⟨f6, H_f6, h⟩ := bs h
  refine w_lasto (pc2 := 36) (ws2 := (wX4 E a o c_left c_right c_parent f6 c_root c_digest c_height c_priority c_pricedBy c_open)) G 4 rfl H_f6 rfl dX4_finish_35 rfl ?_
  refine w_aload_n (pc2 := 37) G 2 rfl dX4_finish_36 rfl rfl ?_
  refine w_get (pc2 := 40) G foX4_28 0 rfl rfl dX4_finish_37 rfl ?_
  refine w_iload_n (pc2 := 41) G 3 rfl dX4_finish_40 rfl rfl ?_
  refine w_iconst (pc2 := 42) G dX4_finish_41 k_iconst_1 rfl ?_
  refine w_aload_n (pc2 := 43) G 2 rfl dX4_finish_42 rfl rfl ?_
  refine w_iload_n (pc2 := 44) G 1 rfl dX4_finish_43 rfl rfl ?_
  obtain ⟨x7, H_x7, h⟩ := bs h
  refine w_cV0 (pc2 := 47) (ws2 := (wX4 E a o c_left c_right c_parent f6 c_root c_digest c_height c_priority c_pricedBy c_open)) (As := [.int v1]) (rest := [.int (1 : Int32), .int l1, .ref (a (o + 6))]) G koX4_65 (r_X4_heightBelow H_x7) (Nat.le_of_ble_eq_true rfl) 4 rfl rfl rfl rfl (Nat.le_of_ble_eq_true rfl) ⟨Nat.zero_le _, Nat.zero_le _⟩ dX4_finish_44 rfl rfl ?_
  refine w_aload_n (pc2 := 48) G 2 rfl dX4_finish_47 rfl rfl ?_
  refine w_iload_n (pc2 := 49) G 0 rfl dX4_finish_48 rfl rfl ?_
  obtain ⟨x8, H_x8, h⟩ := bs h
  refine w_cV0 (pc2 := 52) (ws2 := (wX4 E a o c_left c_right c_parent f6 c_root c_digest c_height c_priority c_pricedBy c_open)) (As := [.int v2]) (rest := [.int x7, .int (1 : Int32), .int l1, .ref (a (o + 6))]) G koX4_65 (r_X4_heightBelow H_x8) (Nat.le_of_ble_eq_true rfl) 4 rfl rfl rfl rfl (Nat.le_of_ble_eq_true rfl) ⟨Nat.zero_le _, Nat.zero_le _⟩ dX4_finish_49 rfl rfl ?_
  refine w_mmax (pc2 := 55) G wd_54 wd_55 wd_56 mc_max (Nat.le_of_ble_eq_true rfl) (Nat.zero_le _) (Nat.zero_le _) (Nat.le_of_ble_eq_true rfl) dX4_finish_52 rfl ?_
  refine w_iadd (pc2 := 56) G dX4_finish_55 rfl ?_
  obtain ⟨f9, H_f9, h⟩ := bs h
  refine w_iasto (pc2 := 57) (ws2 := (wX4 E a o c_left c_right c_parent f6 c_root c_digest f9 c_priority c_pricedBy c_open)) G 6 rfl H_f9 rfl dX4_finish_56 rfl ?_
  refine w_aload_n (pc2 := 58) G 2 rfl dX4_finish_57 rfl rfl ?_
  refine w_get (pc2 := 61) G foX4_25 0 rfl rfl dX4_finish_58 rfl ?_
  refine w_iload_n (pc2 := 62) G 3 rfl dX4_finish_61 rfl rfl ?_
  refine w_iconst (pc2 := 63) G dX4_finish_62 k_iconst_1 rfl ?_
  refine w_bipush (pc2 := 65) G dX4_finish_63 k_bipush_31 rfl ?_
  refine w_aload_n (pc2 := 66) G 2 rfl dX4_finish_65 rfl rfl ?_
  refine w_iload_n (pc2 := 67) G 1 rfl dX4_finish_66 rfl rfl ?_
  obtain ⟨x10, H_x10, h⟩ := bs h
  refine w_cV0 (pc2 := 70) (ws2 := (wX4 E a o c_left c_right c_parent f6 c_root c_digest f9 c_priority c_pricedBy c_open)) (As := [.int v1]) (rest := [.int (31 : Int32), .int (1 : Int32), .int l1, .ref (a (o + 5))]) G koX4_74 (r_X4_digestBelow H_x10) (Nat.le_of_ble_eq_true rfl) 4 rfl rfl rfl rfl (Nat.le_of_ble_eq_true rfl) ⟨Nat.zero_le _, Nat.zero_le _⟩ dX4_finish_67 rfl rfl ?_
  refine w_imul (pc2 := 71) G dX4_finish_70 rfl ?_
  refine w_bipush (pc2 := 73) G dX4_finish_71 k_bipush_57 rfl ?_
  refine w_aload_n (pc2 := 74) G 2 rfl dX4_finish_73 rfl rfl ?_
  refine w_iload_n (pc2 := 75) G 0 rfl dX4_finish_74 rfl rfl ?_
  obtain ⟨x11, H_x11, h⟩ := bs h
  refine w_cV0 (pc2 := 78) (ws2 := (wX4 E a o c_left c_right c_parent f6 c_root c_digest f9 c_priority c_pricedBy c_open)) (As := [.int v2]) (rest := [.int (57 : Int32), .int ((31 : Int32) * x10), .int (1 : Int32), .int l1, .ref (a (o + 5))]) G koX4_74 (r_X4_digestBelow H_x11) (Nat.le_of_ble_eq_true rfl) 4 rfl rfl rfl rfl (Nat.le_of_ble_eq_true rfl) ⟨Nat.zero_le _, Nat.zero_le _⟩ dX4_finish_75 rfl rfl ?_
  refine w_imul (pc2 := 79) G dX4_finish_78 rfl ?_
  refine w_iadd (pc2 := 80) G dX4_finish_79 rfl ?_
  refine w_sipush (pc2 := 83) G dX4_finish_80 k_sipush_7919 rfl ?_
  refine w_iload_n (pc2 := 84) G 3 rfl dX4_finish_83 rfl rfl ?_
  refine w_iconst (pc2 := 85) G dX4_finish_84 k_iconst_1 rfl ?_
  refine w_iadd (pc2 := 86) G dX4_finish_85 rfl ?_
  refine w_imul (pc2 := 87) G dX4_finish_86 rfl ?_
  refine w_iadd (pc2 := 88) G dX4_finish_87 rfl ?_
  refine w_ldc (pc2 := 90) G wd_60 dX4_finish_88 rfl ?_
  refine w_irem (pc2 := 91) G dX4_finish_90 (by decide) rfl ?_
  refine w_iadd (pc2 := 92) G dX4_finish_91 rfl ?_
  obtain ⟨f12, H_f12, h⟩ := bs h
  refine w_iasto (pc2 := 93) (ws2 := (wX4 E a o c_left c_right c_parent f6 c_root f12 f9 c_priority c_pricedBy c_open)) G 5 rfl H_f12 rfl dX4_finish_92 rfl ?_
  refine w_iload_n (pc2 := 94) G 1 rfl dX4_finish_93 rfl rfl ?_
  refine w_if_lt (tgt := 104) (pc2 := 97) G dX4_finish_94 (by decide) rfl (fun cc => ?_) (fun cc => ?_)
  · replace h := (if_pos cc).symm.trans h
    refine w_iload_n (pc2 := 105) G 0 rfl dX4_finish_104 rfl rfl ?_
    refine w_if_lt (tgt := 115) (pc2 := 108) G dX4_finish_105 (by decide) rfl (fun cc => ?_) (fun cc => ?_)
    · replace h := (if_pos cc).symm.trans h
      cases h
      exact w_vret G hQ rfl ⟨rfl, rfl⟩ dX4_finish_115
    · replace h := (if_neg cc).symm.trans h
      refine w_aload_n (pc2 := 109) G 2 rfl dX4_finish_108 rfl rfl ?_
      refine w_get (pc2 := 112) G foX4_18 0 rfl rfl dX4_finish_109 rfl ?_
      refine w_iload_n (pc2 := 113) G 0 rfl dX4_finish_112 rfl rfl ?_
      refine w_iload_n (pc2 := 114) G 3 rfl dX4_finish_113 rfl rfl ?_
      obtain ⟨f13, H_f13, h⟩ := bs h
      refine w_iasto (pc2 := 115) (ws2 := (wX4 E a o c_left c_right f13 f6 c_root f12 f9 c_priority c_pricedBy c_open)) G 3 rfl H_f13 rfl dX4_finish_114 rfl ?_
      cases h
      exact w_vret G hQ rfl ⟨rfl, rfl⟩ dX4_finish_115
  · replace h := (if_neg cc).symm.trans h
    refine w_aload_n (pc2 := 98) G 2 rfl dX4_finish_97 rfl rfl ?_
    refine w_get (pc2 := 101) G foX4_18 0 rfl rfl dX4_finish_98 rfl ?_
    refine w_iload_n (pc2 := 102) G 1 rfl dX4_finish_101 rfl rfl ?_
    refine w_iload_n (pc2 := 103) G 3 rfl dX4_finish_102 rfl rfl ?_
    obtain ⟨f14, H_f14, h⟩ := bs h
    refine w_iasto (pc2 := 104) (ws2 := (wX4 E a o c_left c_right f14 f6 c_root f12 f9 c_priority c_pricedBy c_open)) G 3 rfl H_f14 rfl dX4_finish_103 rfl ?_
    refine w_iload_n (pc2 := 105) G 0 rfl dX4_finish_104 rfl rfl ?_
    refine w_if_lt (tgt := 115) (pc2 := 108) G dX4_finish_105 (by decide) rfl (fun cc => ?_) (fun cc => ?_)
    · replace h := (if_pos cc).symm.trans h
      cases h
      exact w_vret G hQ rfl ⟨rfl, rfl⟩ dX4_finish_115
    · replace h := (if_neg cc).symm.trans h
      refine w_aload_n (pc2 := 109) G 2 rfl dX4_finish_108 rfl rfl ?_
      refine w_get (pc2 := 112) G foX4_18 0 rfl rfl dX4_finish_109 rfl ?_
      refine w_iload_n (pc2 := 113) G 0 rfl dX4_finish_112 rfl rfl ?_
      refine w_iload_n (pc2 := 114) G 3 rfl dX4_finish_113 rfl rfl ?_
      obtain ⟨f15, H_f15, h⟩ := bs h
      refine w_iasto (pc2 := 115) (ws2 := (wX4 E a o c_left c_right f15 f6 c_root f12 f9 c_priority c_pricedBy c_open)) G 3 rfl H_f15 rfl dX4_finish_114 rfl ?_
      cases h
      exact w_vret G hQ rfl ⟨rfl, rfl⟩ dX4_finish_115
