theorem wd_560 : Cond.instantiable "KeyedTree" 9 ∈ gtb := gt_at 14 (by decide +kernel) (by decide +kernel)
theorem wd_561 : Cond.instantiable "KeyedTreeModel" 30 ∈ gtb := gt_at 575 (by decide +kernel) (by decide +kernel)
theorem wd_562 : Cond.classLink "KeyedTreeLaw" 7 "KeyedTree" ∈ gtb := gt_at 13 (by decide +kernel) (by decide +kernel)
theorem wd_563 : Cond.methodLink "KeyedTreeLaw" 9 ⟨"KeyedTree", "<init>", "()V"⟩ ∈ gtb := gt_at 15 (by decide +kernel) (by decide +kernel)
theorem wd_564 : Cond.instanceMethod ⟨"KeyedTree", "<init>", "()V"⟩ ∈ gtb := gt_at 16 (by decide +kernel) (by decide +kernel)
theorem wd_565 : Cond.classLink "KeyedTreeLaw" 10 "KeyedTreeModel" ∈ gtb := gt_at 574 (by decide +kernel) (by decide +kernel)
theorem wd_566 : Cond.methodLink "KeyedTreeLaw" 12 ⟨"KeyedTreeModel", "<init>", "()V"⟩ ∈ gtb := gt_at 576 (by decide +kernel) (by decide +kernel)
theorem wd_567 : Cond.instanceMethod ⟨"KeyedTreeModel", "<init>", "()V"⟩ ∈ gtb := gt_at 577 (by decide +kernel) (by decide +kernel)
theorem koL_9 : COK RL 9 yX7_init cX7_init 2 none 0 ∧ yX7_init.name = "<init>" ∧ Cond.instanceMethod yX7_init ∈ gtb := ⟨⟨wd_563, (show Cond.initialized "KeyedTree" ∈ gtb from wd_4), (gt_at 17 (by decide +kernel) (by decide +kernel)), ⟨by decide +kernel, by decide +kernel, by decide +kernel⟩, by decide⟩, rfl, wd_564⟩
theorem koL_12 : COK RL 12 yX8_init cX8_init 1 none 0 ∧ yX8_init.name = "<init>" ∧ Cond.instanceMethod yX8_init ∈ gtb := ⟨⟨wd_566, (show Cond.initialized "KeyedTreeModel" ∈ gtb from wd_186), (gt_at 578 (by decide +kernel) (by decide +kernel)), ⟨by decide +kernel, by decide +kernel, by decide +kernel⟩, by decide⟩, rfl, wd_567⟩
theorem mf {w : Cond} (h : w ∈ gtb) : w ∈ lw_tbl := (List.mem_filter.mp h).1
def kI (sd : Nat → Int64) : KS := ((fun _ => 0), (0 : Int32), (fun _ => 0), (0 : Int32), (fun _ => 0), (0 : Int32), (0 : Int32), sd, (0 : Int32), (fun _ => 0), (0 : Int32), (0 : Int32), sd, (0 : Int32), (fun _ => 0), (0 : Int32), (0 : Int32), sd, (0 : Int32), (0 : Int32), (0 : Int32), (0 : Int32), (fun _ => 0), (fun _ => 0), (fun _ => 0), (fun _ => 0), (0 : Int32), (fun _ => 0), (fun _ => 0), (fun _ => 0), (-6 : Int32), (fun _ => 0), (fun _ => 0), (fun _ => 0), (fun _ => 0), (fun _ => 0), (0 : Int32), (fun _ => 0), (fun _ => 0), (fun _ => 0), (-6 : Int32), (fun _ => 0), (fun _ => 0), (0 : Int32), (fun _ => 0), (0 : Int32), (0 : Int32), (0 : Int32), (0 : Int32), (0 : Int32), (0 : Int32))
def mI : MS := ((0 : Int32), (fun _ => 0), (fun _ => 0), (fun _ => 0), (0 : Int32), (fun _ => 0), (0 : Int32), (fun _ => 0), (fun _ => 0), (fun _ => 0), (fun _ => 0), (0 : Int32), (fun _ => 0), (fun _ => 0), (fun _ => 0), (fun _ => 0), (0 : Int32), (0 : Int32), (0 : Int32), (0 : Int32), (0 : Int32), (0 : Int32), (fun _ => 0), (fun _ => 0), (fun _ => 0), (fun _ => 0), (fun _ => 0), (fun _ => 0), (0 : Int32), (0 : Int32))
set_option maxHeartbeats 4000000 in
set_option maxRecDepth 100000 in
theorem law_loop {g : CX} {E : EV} {b L : Nat} {sc : Nat → Int32} (X : LX g E b L sc) {Inv : KS → MS → Prop} (hS : Sim Inv) {aK aM : Nat → Nat} {cells slots : Nat} (hcc : cells ≤ 600000) (hss : slots ≤ 7302250)
    (hEnd : ∀ (k : KS) (m : MS) (lv : List (Nat × Value)), WW g E 4 cells slots (wKS E aK k ++ wMS E aM m) lv 842 [.int 1]) :
    ∀ (n i : Nat) (x3 : Int32) (k : KS) (m : MS), i ≤ L → L + 1 ≤ i + n → x3 = nI i → Inv k m → WW g E 4 cells slots (wKS E aK k ++ wMS E aM m) [(0, .ref b), (1, .ref (aK 0)), (2, .ref (aM 0)), (3, .int x3)] 18 [] := by
  obtain ⟨G, hX, hbl, hbA, hL⟩ := id X
  intro n
  induction n with
  | zero => intro i x3 k m h1 h2; exact absurd h2 (by omega)
  | succ n ih =>
    intro i x3 k m hi hin ex hI
    refine w_iload_n (pc2 := 19) G 3 rfl dL_law_18 rfl rfl ?_
    refine w_aload_n (pc2 := 20) G 0 rfl dL_law_19 rfl rfl ?_
    refine w_slen (pc2 := 21) G hX hbl hbA dL_law_20 rfl ?_
    refine w_iconst (pc2 := 22) G dL_law_21 k_iconst_4 rfl ?_
    refine w_isub (pc2 := 23) G dL_law_22 rfl ?_
    refine w_icmp_gt (tgt := 841) (pc2 := 26) G dL_law_23 (by decide) rfl (fun cc => ?_) (fun cc => ?_)
    · refine w_iconst (pc2 := 842) G dL_law_841 k_iconst_1 rfl ?_
      exact hEnd k m _
    · have e4 : (nI L - 4).toInt = (L : Int) - 4 := pk_sub_toInt (a := L) (b := 4) (by omega) (by omega)
      have hlt : i + 4 ≤ L := by
        have h1 : ¬ (Int32.ofNat L - 4) < x3 := cc
        rw [ex, Int32.lt_iff_toInt_lt] at h1
        have h2 : (Int32.ofNat L - 4).toInt = (L : Int) - 4 := e4
        rw [h2, nI_toInt (by omega)] at h1
        omega
      have a1 : x3 + (1 : Int32) = nI (i + 1) := by rw [ex]; exact nI_add i 1
      have a2 : x3 + (2 : Int32) = nI (i + 2) := by rw [ex]; exact nI_add i 2
      have a3 : x3 + (3 : Int32) = nI (i + 3) := by rw [ex]; exact nI_add i 3
      have a4 : x3 + (4 : Int32) = nI (i + 4) := by rw [ex]; exact nI_add i 4
      have hi0 : vp_in x3 L := by rw [ex]; exact vp_in_nI (by omega) (by omega)
      have hi1 : vp_in (x3 + (1 : Int32)) L := by rw [a1]; exact vp_in_nI (by omega) (by omega)
      have hi2 : vp_in (x3 + (2 : Int32)) L := by rw [a2]; exact vp_in_nI (by omega) (by omega)
      have hi3 : vp_in (x3 + (3 : Int32)) L := by rw [a3]; exact vp_in_nI (by omega) (by omega)
      have K : ∀ (k : KS) (m : MS), Inv k m → WW g E 4 cells slots (wKS E aK k ++ wMS E aM m) [(0, .ref b), (1, .ref (aK 0)), (2, .ref (aM 0)), (3, .int x3)] 835 [] := by
        intro k m hI
        refine w_iinc (pc2 := 838) (lv2 := [(3, .int (x3 + (4 : Int32))), (0, .ref b), (1, .ref (aK 0)), (2, .ref (aM 0))]) G 3 rfl dL_law_835 k_iconst_4 (Nat.le_of_ble_eq_true rfl) rfl rfl ?_
        refine w_goto (tgt := 18) G dL_law_838 (by decide) ?_
        exact w_lv [1, 2, 3, 0] rfl (ih (i + 4) (x3 + (4 : Int32)) k m hlt (by omega) a4 hI)
      refine w_aload_n (pc2 := 27) G 0 rfl dL_law_26 rfl rfl ?_
      refine w_iload_n (pc2 := 28) G 3 rfl dL_law_27 rfl rfl ?_
      refine w_sld (pc2 := 29) G hX hbl hbA hi0 dL_law_28 rfl ?_
      refine w_bipush (pc2 := 31) G dL_law_29 k_bipush_31 rfl ?_
      refine w_iand (pc2 := 32) G dL_law_31 rfl ?_
      by_cases s0 : (sc x3.toNatClampNeg &&& (31 : Int32)) = (0 : Int32)
      · refine w_tabIn (tgt := 144) G s0 dL_law_32 (by decide) (by decide) rfl (by decide) ?_
        exact law_seed X hS.1 hcc hss hi1 hi2 hi3 k m hI K
      by_cases s1 : (sc x3.toNatClampNeg &&& (31 : Int32)) = (1 : Int32)
      · refine w_tabIn (tgt := 167) G s1 dL_law_32 (by decide) (by decide) rfl (by decide) ?_
        exact law_put X hS.2.1 hcc hss hi1 hi2 hi3 k m hI K
      by_cases s2 : (sc x3.toNatClampNeg &&& (31 : Int32)) = (2 : Int32)
      · refine w_tabIn (tgt := 226) G s2 dL_law_32 (by decide) (by decide) rfl (by decide) ?_
        exact law_say X hS.2.2.1 hcc hss hi1 hi2 hi3 k m hI K
      by_cases s3 : (sc x3.toNatClampNeg &&& (31 : Int32)) = (3 : Int32)
      · refine w_tabIn (tgt := 249) G s3 dL_law_32 (by decide) (by decide) rfl (by decide) ?_
        exact law_wipe X hS.2.2.2.1 hcc hss hi1 hi2 hi3 k m hI K
      by_cases s4 : (sc x3.toNatClampNeg &&& (31 : Int32)) = (4 : Int32)
      · refine w_tabIn (tgt := 262) G s4 dL_law_32 (by decide) (by decide) rfl (by decide) ?_
        exact law_fault X hS.2.2.2.2.1 hcc hss hi1 hi2 hi3 k m hI K
      by_cases s5 : (sc x3.toNatClampNeg &&& (31 : Int32)) = (5 : Int32)
      · refine w_tabIn (tgt := 275) G s5 dL_law_32 (by decide) (by decide) rfl (by decide) ?_
        exact law_judge X hS.2.2.2.2.2.1 hcc hss hi1 hi2 hi3 k m hI K
      by_cases s6 : (sc x3.toNatClampNeg &&& (31 : Int32)) = (6 : Int32)
      · refine w_tabIn (tgt := 298) G s6 dL_law_32 (by decide) (by decide) rfl (by decide) ?_
        exact law_behind X hS.2.2.2.2.2.2.1 hcc hss hi1 hi2 hi3 k m hI K
      by_cases s7 : (sc x3.toNatClampNeg &&& (31 : Int32)) = (7 : Int32)
      · refine w_tabIn (tgt := 331) G s7 dL_law_32 (by decide) (by decide) rfl (by decide) ?_
        exact law_alike X hS.2.2.2.2.2.2.2.1 hcc hss hi1 hi2 hi3 k m hI K
      by_cases s8 : (sc x3.toNatClampNeg &&& (31 : Int32)) = (8 : Int32)
      · refine w_tabIn (tgt := 354) G s8 dL_law_32 (by decide) (by decide) rfl (by decide) ?_
        exact law_done X hS.2.2.2.2.2.2.2.2.1 hcc hss hi1 hi2 hi3 k m hI K
      by_cases s9 : (sc x3.toNatClampNeg &&& (31 : Int32)) = (9 : Int32)
      · refine w_tabIn (tgt := 367) G s9 dL_law_32 (by decide) (by decide) rfl (by decide) ?_
        exact law_node X hS.2.2.2.2.2.2.2.2.2.1 hcc hss hi1 hi2 hi3 k m hI K
      by_cases s10 : (sc x3.toNatClampNeg &&& (31 : Int32)) = (10 : Int32)
      · refine w_tabIn (tgt := 410) G s10 dL_law_32 (by decide) (by decide) rfl (by decide) ?_
        exact law_place X hS.2.2.2.2.2.2.2.2.2.2.1 hcc hss hi1 hi2 hi3 k m hI K
      by_cases s11 : (sc x3.toNatClampNeg &&& (31 : Int32)) = (11 : Int32)
      · refine w_tabIn (tgt := 443) G s11 dL_law_32 (by decide) (by decide) rfl (by decide) ?_
        exact law_at X hS.2.2.2.2.2.2.2.2.2.2.2.1 hcc hss hi1 hi2 hi3 k m hI K
      by_cases s12 : (sc x3.toNatClampNeg &&& (31 : Int32)) = (12 : Int32)
      · refine w_tabIn (tgt := 476) G s12 dL_law_32 (by decide) (by decide) rfl (by decide) ?_
        exact law_apart X hS.2.2.2.2.2.2.2.2.2.2.2.2.1 hcc hss hi1 hi2 hi3 k m hI K
      by_cases s13 : (sc x3.toNatClampNeg &&& (31 : Int32)) = (13 : Int32)
      · refine w_tabIn (tgt := 519) G s13 dL_law_32 (by decide) (by decide) rfl (by decide) ?_
        exact law_differs X hS.2.2.2.2.2.2.2.2.2.2.2.2.2.1 hcc hss hi1 hi2 hi3 k m hI K
      by_cases s14 : (sc x3.toNatClampNeg &&& (31 : Int32)) = (14 : Int32)
      · refine w_tabIn (tgt := 562) G s14 dL_law_32 (by decide) (by decide) rfl (by decide) ?_
        exact law_above X hS.2.2.2.2.2.2.2.2.2.2.2.2.2.2.1 hcc hss hi1 hi2 hi3 k m hI K
      by_cases s15 : (sc x3.toNatClampNeg &&& (31 : Int32)) = (15 : Int32)
      · refine w_tabIn (tgt := 595) G s15 dL_law_32 (by decide) (by decide) rfl (by decide) ?_
        exact law_forget X hS.2.2.2.2.2.2.2.2.2.2.2.2.2.2.2.1 hcc hss hi1 hi2 hi3 k m hI K
      by_cases s16 : (sc x3.toNatClampNeg &&& (31 : Int32)) = (16 : Int32)
      · refine w_tabIn (tgt := 608) G s16 dL_law_32 (by decide) (by decide) rfl (by decide) ?_
        exact law_seeds X hS.2.2.2.2.2.2.2.2.2.2.2.2.2.2.2.2.1 hcc hss hi1 hi2 hi3 k m hI K
      by_cases s17 : (sc x3.toNatClampNeg &&& (31 : Int32)) = (17 : Int32)
      · refine w_tabIn (tgt := 631) G s17 dL_law_32 (by decide) (by decide) rfl (by decide) ?_
        exact law_orders X hS.2.2.2.2.2.2.2.2.2.2.2.2.2.2.2.2.2.1 hcc hss hi1 hi2 hi3 k m hI K
      by_cases s18 : (sc x3.toNatClampNeg &&& (31 : Int32)) = (18 : Int32)
      · refine w_tabIn (tgt := 655) G s18 dL_law_32 (by decide) (by decide) rfl (by decide) ?_
        exact law_shapes X hS.2.2.2.2.2.2.2.2.2.2.2.2.2.2.2.2.2.2.1 hcc hss hi1 hi2 hi3 k m hI K
      by_cases s19 : (sc x3.toNatClampNeg &&& (31 : Int32)) = (19 : Int32)
      · refine w_tabIn (tgt := 679) G s19 dL_law_32 (by decide) (by decide) rfl (by decide) ?_
        exact law_deep X hS.2.2.2.2.2.2.2.2.2.2.2.2.2.2.2.2.2.2.2.1 hcc hss hi1 hi2 hi3 k m hI K
      by_cases s20 : (sc x3.toNatClampNeg &&& (31 : Int32)) = (20 : Int32)
      · refine w_tabIn (tgt := 723) G s20 dL_law_32 (by decide) (by decide) rfl (by decide) ?_
        exact law_run X hS.2.2.2.2.2.2.2.2.2.2.2.2.2.2.2.2.2.2.2.2.1 hcc hss hi1 hi2 hi3 k m hI K
      by_cases s21 : (sc x3.toNatClampNeg &&& (31 : Int32)) = (21 : Int32)
      · refine w_tabIn (tgt := 766) G s21 dL_law_32 (by decide) (by decide) rfl (by decide) ?_
        exact law_image X hS.2.2.2.2.2.2.2.2.2.2.2.2.2.2.2.2.2.2.2.2.2.1 hcc hss hi1 hi2 hi3 k m hI K
      by_cases s22 : (sc x3.toNatClampNeg &&& (31 : Int32)) = (22 : Int32)
      · refine w_tabIn (tgt := 789) G s22 dL_law_32 (by decide) (by decide) rfl (by decide) ?_
        exact law_restore X hS.2.2.2.2.2.2.2.2.2.2.2.2.2.2.2.2.2.2.2.2.2.2.1 hcc hss hi1 hi2 hi3 k m hI K
      by_cases s23 : (sc x3.toNatClampNeg &&& (31 : Int32)) = (23 : Int32)
      · refine w_tabIn (tgt := 812) G s23 dL_law_32 (by decide) (by decide) rfl (by decide) ?_
        exact law_told X hS.2.2.2.2.2.2.2.2.2.2.2.2.2.2.2.2.2.2.2.2.2.2.2 hcc hss hi1 hi2 hi3 k m hI K
      refine w_tabOut (tgt := 835) G dL_law_32 (by have e0 := ne_ti s0; have e1 := ne_ti s1; have e2 := ne_ti s2; have e3 := ne_ti s3; have e4 := ne_ti s4; have e5 := ne_ti s5; have e6 := ne_ti s6; have e7 := ne_ti s7; have e8 := ne_ti s8; have e9 := ne_ti s9; have e10 := ne_ti s10; have e11 := ne_ti s11; have e12 := ne_ti s12; have e13 := ne_ti s13; have e14 := ne_ti s14; have e15 := ne_ti s15; have e16 := ne_ti s16; have e17 := ne_ti s17; have e18 := ne_ti s18; have e19 := ne_ti s19; have e20 := ne_ti s20; have e21 := ne_ti s21; have e22 := ne_ti s22; have e23 := ne_ti s23; rw [show (0 : Int32).toInt = 0 from rfl] at e0; rw [show (1 : Int32).toInt = 1 from rfl] at e1; rw [show (2 : Int32).toInt = 2 from rfl] at e2; rw [show (3 : Int32).toInt = 3 from rfl] at e3; rw [show (4 : Int32).toInt = 4 from rfl] at e4; rw [show (5 : Int32).toInt = 5 from rfl] at e5; rw [show (6 : Int32).toInt = 6 from rfl] at e6; rw [show (7 : Int32).toInt = 7 from rfl] at e7; rw [show (8 : Int32).toInt = 8 from rfl] at e8; rw [show (9 : Int32).toInt = 9 from rfl] at e9; rw [show (10 : Int32).toInt = 10 from rfl] at e10; rw [show (11 : Int32).toInt = 11 from rfl] at e11; rw [show (12 : Int32).toInt = 12 from rfl] at e12; rw [show (13 : Int32).toInt = 13 from rfl] at e13; rw [show (14 : Int32).toInt = 14 from rfl] at e14; rw [show (15 : Int32).toInt = 15 from rfl] at e15; rw [show (16 : Int32).toInt = 16 from rfl] at e16; rw [show (17 : Int32).toInt = 17 from rfl] at e17; rw [show (18 : Int32).toInt = 18 from rfl] at e18; rw [show (19 : Int32).toInt = 19 from rfl] at e19; rw [show (20 : Int32).toInt = 20 from rfl] at e20; rw [show (21 : Int32).toInt = 21 from rfl] at e21; rw [show (22 : Int32).toInt = 22 from rfl] at e22; rw [show (23 : Int32).toInt = 23 from rfl] at e23; omega) (by decide) ?_
      exact K k m hI
theorem nest_in : ∀ q ∈ nestL, Cond.methodLinkNest q.1 q.2.1 q.2.2.1 q.2.2.2 ∈ lw_tbl := by decide +kernel
theorem over_in : Cond.arrayOver (.object "KeyedTree$Image") ∈ lw_tbl := List.mem_append_right _ (List.mem_of_getElem? (i := 76) (by decide +kernel))
set_option maxHeartbeats 4000000 in
set_option maxRecDepth 100000 in
theorem whole_of {p : Program} {e : Env} {s : State} {m : MethodId} {below : List Frame} {meth : Method} {c : Code} (l : Launch) {b L : Nat} {xs : Nat → Int32} (hL : L ≤ 2048) (C0 : lw_At p s m meth c b L xs) {Inv : KS → MS → Prop} (hS : Sim Inv) {sd : Nat → Int64} (hF : f_X3_fill (fun _ => 0) = some sd) (h0 : Inv (kI sd) mI) : W p l e room_1 s m #[Value.ref b] below meth c s.heap [] 0 0 (lw_Z below #[Value.ref b] s) (entryFrame m ([Value.ref b] : List Value).toArray 4) := by
  obtain ⟨hx, hb, hr, hml, hown, hts, hX, hbl, hlocks, hgv⟩ := id C0
  obtain ⟨c0, iS0, hKn0⟩ := u_known (C := RX0) (T := TX0) (N := 4) (n := 4) hts inX0 (hts (.instantiable RX0 4) (mf wd_397))
  obtain ⟨c1, iS1, hKn1⟩ := u_known (C := RX1) (T := TX1) (N := 3) (n := 3) hts inX1 (hts (.instantiable RX1 3) (mf wd_414))
  obtain ⟨c2, iS2, hKn2⟩ := u_known (C := RX2) (T := TX2) (N := 2) (n := 2) hts inX2 (hts (.instantiable RX2 2) (mf wd_406))
  obtain ⟨c3, iS3, hKn3⟩ := u_known (C := RX3) (T := TX3) (N := 2) (n := 2) hts inX3 (hts (.instantiable RX3 2) (mf wd_392))
  obtain ⟨c4, iS4, hKn4⟩ := u_known (C := RX4) (T := TX4) (N := 10) (n := 10) hts inX4 (hts (.instantiable RX4 10) (mf wd_400))
  obtain ⟨c5, iS5, hKn5⟩ := u_known (C := RX5) (T := TX5) (N := 10) (n := 10) hts inX5 (hts (.instantiable RX5 10) (mf wd_412))
  obtain ⟨c6, iS6, hKn6⟩ := u_known (C := RX6) (T := TX6) (N := 2) (n := 2) hts inX6 (hts (.instantiable RX6 2) (mf wd_389))
  obtain ⟨c7, iS7, hKn7⟩ := u_known (C := RX7) (T := TX7) (N := 9) (n := 9) hts inX7 (hts (.instantiable RX7 9) (mf wd_560))
  obtain ⟨c8, iS8, hKn8⟩ := u_known (C := RX8) (T := TX8) (N := 30) (n := 30) hts inX8 (hts (.instantiable RX8 30) (mf wd_561))
  obtain ⟨dC, dI, hKc⟩ : ∃ (dC : Nat → ClassId) (dI : Nat → Nat → Nat), ∀ (k : Nat) (q : vw_C), vwCl[k]? = some q → u_Kn s q.1 q.2.1 q.2.2 (dC k) (dI k) := by
    refine ⟨fun k => if k = 0 then c0 else if k = 1 then c1 else if k = 2 then c2 else if k = 3 then c3 else if k = 4 then c4 else if k = 5 then c5 else if k = 6 then c6 else if k = 7 then c7 else c8, fun k => if k = 0 then iS0 else if k = 1 then iS1 else if k = 2 then iS2 else if k = 3 then iS3 else if k = 4 then iS4 else if k = 5 then iS5 else if k = 6 then iS6 else if k = 7 then iS7 else iS8, ?_⟩
    intro k q hq
    match k, hq with
    | 0, hq => cases hq; exact hKn0
    | 1, hq => cases hq; exact hKn1
    | 2, hq => cases hq; exact hKn2
    | 3, hq => cases hq; exact hKn3
    | 4, hq => cases hq; exact hKn4
    | 5, hq => cases hq; exact hKn5
    | 6, hq => cases hq; exact hKn6
    | 7, hq => cases hq; exact hKn7
    | 8, hq => cases hq; exact hKn8
    | k + 9, hq => simp [vwCl] at hq
  obtain ⟨cI, kAI, cpI, f1, f2, f3⟩ := Cond.arrayClass_spec (hts (.arrayClass .int) (mf harrI))
  obtain ⟨cJ, kAJ, cpJ, j1, j2, j3⟩ := Cond.arrayClass_spec (hts (.arrayClass .long) (mf harrJ))
  obtain ⟨cZ, kAZ, cpZ, z1, z2, z3⟩ := Cond.arrayClass_spec (hts (.arrayClass .boolean) (mf harrZ))
  obtain ⟨cpO, cO, kAO, o1, o2, o3, o4, o5⟩ := Cond.arrayOver_spec (hts _ over_in)
  have hK : va_K (dC, dI) vwCl (tyE ((dC, dI), cI, cJ, cZ, cO)) s := by
    refine ⟨hKc, fun k q h => ?_⟩
    match k, h with
    | 0, h => cases h; exact ⟨fun n z => ⟨fun k h => (by cases h), kAI, f2, cpI, f3⟩, f1⟩
    | 1, h => cases h; exact ⟨fun n z => ⟨fun k h => (by cases h), kAJ, j2, cpJ, j3⟩, j1⟩
    | 2, h => cases h; exact ⟨fun n z => ⟨fun k h => (by cases h), kAZ, z2, cpZ, z3⟩, z1⟩
    | 3, h => cases h; exact ⟨fun n z => ⟨fun k h => (by cases h), kAO, o3, cpO, o4⟩, ⟨kAO, cpO, o3, o4, o1, o5⟩⟩
    | k + 4, h => simp at h
  have hbA : ¬ s.heap.size ≤ b := Nat.not_le.mpr hbl
  generalize hE : (((dC, dI), cI, cJ, cZ, cO) : EV) = E at hK
  have hK : va_K E.1 vwCl (tyE E) s := by rw [← hE]; rw [← hE] at hK; exact hK
  generalize hg : ((p, l, e, room_1, s, m, #[Value.ref b], below, meth, c, lw_Z below #[Value.ref b] s, fun q => s.heap.size ≤ q) : CX) = g
  have G : GG g E RL cL_law 4 (some .boolean) 100 600000 7302250 := by
    subst hg
    exact ⟨hx, hb, hml, hown, fun w hw => hts w (mf hw), hK, fun q h => h, ⟨Nat.le_of_ble_eq_true rfl, Nat.le_of_ble_eq_true rfl, Nat.le_of_ble_eq_true rfl, Nat.le_of_ble_eq_true rfl⟩, hr, hlocks, fun q hq => va_Nw.of rfl (hts _ (nest_in q hq)), va_AO.of (hts _ over_in)⟩
  have X : LX g E b L xs := by
    refine ⟨G, ?_⟩
    subst hg
    exact ⟨hX, hbl, hbA, hL⟩
  have hEnd : ∀ (cells slots : Nat) (ws : va_W) (lv : List (Nat × Value)), cells ≤ 600000 → slots ≤ 7302250 → WW g E 4 cells slots ws lv 842 [.int 1] := by
    intro cells slots ws lv hc hs
    subst hg
    intro H locs ls hP hD hS' hl
    refine va_forget (fun q hq => hS'.2.2 q hq) ?_
    refine W.widen (k := 600000) (n := 7302250) hc hs ?_
    exact lw_ret hx hb hr hlocks dL_law_842
  have main : WW g E 4 0 0 [] [(0, .ref b)] 0 [] := by
    refine w_new (pc2 := 3) (cells2 := 1) (slots2 := 9) (fs := [.null, .null, .null, .null, .null, .null, .null, .null, .null]) G (fun w h => List.mem_filter.mpr ⟨inX7 w h, List.all_eq_true.mp gdX7 w h⟩) tokX7 wd_562 wd_560 wd_4 (ci := 7) rfl dfX7 rfl rfl (Nat.le_of_ble_eq_true rfl) (Nat.le_of_ble_eq_true rfl) dL_law_0 rfl (fun q1 => ?_)
    refine w_eq (ws2 := [(q1, .inr (7, [.null, .null, .null, .null, .null, .null, .null, .null, .null]))]) rfl ?_
    refine w_dup (pc2 := 4) G dL_law_3 rfl rfl ?_
    refine w_callI (pc2 := 7) (As := []) (rest := [.ref q1]) G koL_9 (i_X7 hF) (Nat.le_of_ble_eq_true rfl) [0] [] rfl rfl rfl rfl rfl rfl rfl (Nat.le_of_ble_eq_true rfl) ⟨Nat.le_of_ble_eq_true rfl, Nat.le_of_ble_eq_true rfl⟩ dL_law_4 rfl (fun v2 w2 hp2 => ?_)
    obtain ⟨rfl, aK, rfl, rfl⟩ := hp2
    show WW g E 4 44 1426 _ [(0, .ref b)] 7 [.ref (aK 0)]
    refine w_eq (ws2 := wKS E aK (kI sd)) rfl ?_
    refine w_astore_n (pc2 := 8) (lv2 := [(1, .ref (aK 0)), (0, .ref b)]) G dL_law_7 rfl (Nat.le_of_ble_eq_true rfl) rfl rfl ?_
    refine w_new (pc2 := 11) (cells2 := 45) (slots2 := 1456) (fs := [.int 0, .null, .null, .null, .int 0, .null, .int 0, .null, .null, .null, .null, .int 0, .null, .null, .null, .null, .int 0, .int 0, .int 0, .int 0, .int 0, .int 0, .null, .null, .null, .null, .null, .null, .int 0, .int 0]) G (fun w h => List.mem_filter.mpr ⟨inX8 w h, List.all_eq_true.mp gdX8 w h⟩) tokX8 wd_565 wd_561 wd_186 (ci := 8) rfl dfX8 rfl rfl (Nat.le_of_ble_eq_true rfl) (Nat.le_of_ble_eq_true rfl) dL_law_8 rfl (fun q2 => ?_)
    refine w_dup (pc2 := 12) G dL_law_11 rfl rfl ?_
    refine w_callI (pc2 := 15) (As := []) (rest := [.ref q2]) (wc := [(q2, .inr (8, [.int 0, .null, .null, .null, .int 0, .null, .int 0, .null, .null, .null, .null, .int 0, .null, .null, .null, .null, .int 0, .int 0, .int 0, .int 0, .int 0, .int 0, .null, .null, .null, .null, .null, .null, .int 0, .int 0]))]) G koL_12 i_X8 (Nat.le_of_ble_eq_true rfl) [44] [0, 1, 2, 3, 4, 5, 6, 7, 8, 9, 10, 11, 12, 13, 14, 15, 16, 17, 18, 19, 20, 21, 22, 23, 24, 25, 26, 27, 28, 29, 30, 31, 32, 33, 34, 35, 36, 37, 38, 39, 40, 41, 42, 43] rfl rfl rfl rfl rfl rfl rfl (Nat.le_of_ble_eq_true rfl) ⟨Nat.le_of_ble_eq_true rfl, Nat.le_of_ble_eq_true rfl⟩ dL_law_12 rfl (fun v2 w2 hp2 => ?_)
    obtain ⟨rfl, aM, rfl, rfl⟩ := hp2
    show WW g E 4 63 3256 _ [(1, .ref (aK 0)), (0, .ref b)] 15 [.ref (aM 0)]
    refine w_eq (ws2 := wKS E aK (kI sd) ++ wMS E aM mI) rfl ?_
    refine w_astore_n (pc2 := 16) (lv2 := [(2, .ref (aM 0)), (1, .ref (aK 0)), (0, .ref b)]) G dL_law_15 rfl (Nat.le_of_ble_eq_true rfl) rfl rfl ?_
    refine w_iconst (pc2 := 17) G dL_law_16 k_iconst_0 rfl ?_
    refine w_istore_n (pc2 := 18) (lv2 := [(3, .int 0), (2, .ref (aM 0)), (1, .ref (aK 0)), (0, .ref b)]) G dL_law_17 rfl (Nat.le_of_ble_eq_true rfl) rfl rfl ?_
    exact w_lv [3, 2, 1, 0] rfl (law_loop X hS (Nat.le_of_ble_eq_true rfl) (Nat.le_of_ble_eq_true rfl) (fun k m lv => hEnd _ _ _ _ (Nat.le_of_ble_eq_true rfl) (Nat.le_of_ble_eq_true rfl)) (L + 1) 0 0 (kI sd) mI (Nat.zero_le L) (by omega) nI_0.symm h0)
  have hl := lv_entry ([.ref b]) (n := 4) (Nat.le_of_ble_eq_true rfl)
  rw [lg_entry_eq]
  subst hg
  exact main s.heap [] _ (fun k q h => by simp at h) ⟨fun i j p q h => by simp at h, fun k q h => by simp at h⟩ va_S.rf hl
