section JudgePart
theorem q_m6_m6 : ((-6 : Int32) = -6) = True := eq_true (by decide)
theorem q_m6_m5 : ((-6 : Int32) = -5) = False := eq_false (by decide)
theorem q_m6_m3 : ((-6 : Int32) = -3) = False := eq_false (by decide)
theorem q_m6_0 : ((-6 : Int32) = 0) = False := eq_false (by decide)
theorem q_m6_1 : ((-6 : Int32) = 1) = False := eq_false (by decide)
theorem q_m6_2 : ((-6 : Int32) = 2) = False := eq_false (by decide)
theorem q_m5_m6 : ((-5 : Int32) = -6) = False := eq_false (by decide)
theorem q_m5_m5 : ((-5 : Int32) = -5) = True := eq_true (by decide)
theorem q_m5_m3 : ((-5 : Int32) = -3) = False := eq_false (by decide)
theorem q_m5_0 : ((-5 : Int32) = 0) = False := eq_false (by decide)
theorem q_m5_1 : ((-5 : Int32) = 1) = False := eq_false (by decide)
theorem q_m5_2 : ((-5 : Int32) = 2) = False := eq_false (by decide)
theorem q_m3_m6 : ((-3 : Int32) = -6) = False := eq_false (by decide)
theorem q_m3_m5 : ((-3 : Int32) = -5) = False := eq_false (by decide)
theorem q_m3_m3 : ((-3 : Int32) = -3) = True := eq_true (by decide)
theorem q_m3_0 : ((-3 : Int32) = 0) = False := eq_false (by decide)
theorem q_m3_1 : ((-3 : Int32) = 1) = False := eq_false (by decide)
theorem q_m3_2 : ((-3 : Int32) = 2) = False := eq_false (by decide)
theorem q_0_m6 : ((0 : Int32) = -6) = False := eq_false (by decide)
theorem q_0_m5 : ((0 : Int32) = -5) = False := eq_false (by decide)
theorem q_0_m3 : ((0 : Int32) = -3) = False := eq_false (by decide)
theorem q_0_0 : ((0 : Int32) = 0) = True := eq_true (by decide)
theorem q_0_1 : ((0 : Int32) = 1) = False := eq_false (by decide)
theorem q_0_2 : ((0 : Int32) = 2) = False := eq_false (by decide)
theorem q_1_m6 : ((1 : Int32) = -6) = False := eq_false (by decide)
theorem q_1_m5 : ((1 : Int32) = -5) = False := eq_false (by decide)
theorem q_1_m3 : ((1 : Int32) = -3) = False := eq_false (by decide)
theorem q_1_0 : ((1 : Int32) = 0) = False := eq_false (by decide)
theorem q_1_1 : ((1 : Int32) = 1) = True := eq_true (by decide)
theorem q_1_2 : ((1 : Int32) = 2) = False := eq_false (by decide)
theorem q_2_m6 : ((2 : Int32) = -6) = False := eq_false (by decide)
theorem q_2_m5 : ((2 : Int32) = -5) = False := eq_false (by decide)
theorem q_2_m3 : ((2 : Int32) = -3) = False := eq_false (by decide)
theorem q_2_0 : ((2 : Int32) = 0) = False := eq_false (by decide)
theorem q_2_1 : ((2 : Int32) = 1) = False := eq_false (by decide)
theorem q_2_2 : ((2 : Int32) = 2) = True := eq_true (by decide)
theorem ql_0 : ((0 : Int32) < 0) = False := eq_false (by decide)
theorem ql2_0 : ((0 : Int32) ≤ 2) = True := eq_true (by decide)
theorem ql1_0 : ((0 : Int32) ≤ 1) = True := eq_true (by decide)
theorem ql_1 : ((1 : Int32) < 0) = False := eq_false (by decide)
theorem ql2_1 : ((1 : Int32) ≤ 2) = True := eq_true (by decide)
theorem ql1_1 : ((1 : Int32) ≤ 1) = True := eq_true (by decide)
theorem ql_2 : ((2 : Int32) < 0) = False := eq_false (by decide)
theorem ql2_2 : ((2 : Int32) ≤ 2) = True := eq_true (by decide)
theorem ql1_2 : ((2 : Int32) ≤ 1) = False := eq_false (by decide)
theorem Core_back {keys : Nat → Int64} {seed cs : Int32} {sds : Nat → Int64} {md ms : Int32} {is is' so st : Nat → Int32} (h : Core keys seed cs sds md ms is so st) (e : ∀ j, j < 200 → is' j = is j) : Core keys seed cs sds md ms is' so st := Core_congr h (fun _ _ => rfl) (fun _ _ => rfl) e (fun _ _ => rfl) (fun _ _ => rfl)
theorem v012 {v : Int32} (h : 0 ≤ v.toInt ∧ v.toInt ≤ 2) : v = 0 ∨ v = 1 ∨ v = 2 := by
  rcases ixc v 3 (by decide) with ⟨j, hj, rfl⟩ | q
  · rcases (show j = 0 ∨ j = 1 ∨ j = 2 by omega) with rfl | rfl | rfl
    · exact Or.inl rfl
    · exact Or.inr (Or.inl rfl)
    · exact Or.inr (Or.inr rfl)
  · omega
theorem judge_eq {keys : Nat → Int64} {seed cs : Int32} {sds : Nat → Int64} {mseed0 ms : Int32} {is so st : Nat → Int32} (hC : Core keys seed cs sds mseed0 ms is so st) {signs pad : Nat → Int32} {count many : Int32} (hP : PadR signs count pad many) (k1 k2 k3 k4 : Int32) (bleft : Nat → Int32) (bright : Nat → Int32) (bparent : Nat → Int32) (bspan : Nat → Int64) (broot : Int32) (bdig : Nat → Int32) (bhei : Nat → Int32) (bprio : Nat → Int32) (bby_ : Int32) (bopn : Nat → Int32) (cleft : Nat → Int32) (cright : Nat → Int32) (cparent : Nat → Int32) (cspan : Nat → Int64) (croot : Int32) (cdig : Nat → Int32) (chei : Nat → Int32) (cprio : Nat → Int32) (cby_ : Int32) (copn : Nat → Int32) (pb : PB bprio bby_) (pc : PB cprio cby_) (ak : Nat → Int64) (as : Int32) (bk : Nat → Int64) (bs xacts xwhy xwork xaa xpp : Int32) (act which key other : Nat → Int32) (macts0 : Int32) (had : Nat → Int32) (ba bw aa0 tw0 wk0 iw0 : Int32) (trees : Nat → Int64) (v : Int32) : ∃ R1 R2, f_X7_judge keys seed signs count k1 k2 k3 k4 bleft bright bparent bspan broot bdig bhei bprio bby_ bopn cleft cright cparent cspan croot cdig chei cprio cby_ copn ak as bk bs xacts xwhy xwork xaa xpp v = some R1 ∧ f_X8_judge mseed0 is pad many act which key other macts0 had ba bw aa0 tw0 wk0 iw0 trees v = some R2 ∧ R1.1 = R2.1 ∧ Core keys seed cs sds R2.2.1 ms R2.2.2.1 so st ∧ PB (R1.2.2.2.2.2.2.2.2.2.2.2.2.1) (R1.2.2.2.2.2.2.2.2.2.2.2.2.2.1) ∧ PB (R1.2.2.2.2.2.2.2.2.2.2.2.2.2.2.2.2.2.2.2.2.2.2.1) (R1.2.2.2.2.2.2.2.2.2.2.2.2.2.2.2.2.2.2.2.2.2.2.2.1) := by
  unfold f_X7_judge f_X8_judge
  rw [in32 v 0 2 (a := 0) (b := 2) rfl rfl]
  by_cases c : 0 ≤ v.toInt ∧ v.toInt ≤ 2
  · rw [if_pos c]
    obtain ⟨S, sd, hsd, rfl, rfl, hS, hG⟩ := id hC
    rcases v012 c with rfl | rfl | rfl
    · obtain ⟨code, j1, j2, j3, j4, dleft, dright, dparent, dspan, droot, ddig, dhei, dprio, dby_, dopn, eleft, eright, eparent, espan, eroot, edig, ehei, eprio, eby_, eopn, ak', as', bk', bs', acts', why', work', aa', pp', mcode, mseed, is', act', which', key', other', macts, had', badAct, badWhy, maa, mpp, mwork, trees', t1, t2, pd, pe, g2, g3, hcase⟩ := try_eq hsd hS hP k1 k2 k3 k4 bleft bright bparent bspan broot bdig bhei bprio bby_ bopn cleft cright cparent cspan croot cdig chei cprio cby_ copn pb pc ak as bk bs xacts xwhy xwork xaa xpp act which key other macts0 had ba bw aa0 tw0 wk0 iw0 trees 0 (by decide)
      simp only [q_m6_m6, q_m6_m5, q_m6_m3, q_m6_0, q_m6_1, q_m6_2, q_m5_m6, q_m5_m5, q_m5_m3, q_m5_0, q_m5_1, q_m5_2, q_m3_m6, q_m3_m5, q_m3_m3, q_m3_0, q_m3_1, q_m3_2, q_0_m6, q_0_m5, q_0_m3, q_0_0, q_0_1, q_0_2, q_1_m6, q_1_m5, q_1_m3, q_1_0, q_1_1, q_1_2, q_2_m6, q_2_m5, q_2_m3, q_2_0, q_2_1, q_2_2, ql_0, ql2_0, ql1_0, ql_1, ql2_1, ql1_1, ql_2, ql2_2, ql1_2, Option.bind_some, if_true, if_false, t1, t2]
      obtain ⟨is'', b1, b2⟩ := back_eq mseed is' had' mcode
      have hC' : Core keys (nI sd) cs sds (had' 200) ms is'' so st := by rw [g3]; exact Core_back hC (fun j hj => by rw [b2 j hj, g2 j hj])
      simp only [b1, Option.bind_some]
      rcases hcase with ⟨rfl, rfl⟩ | ⟨a, ha, rfl, hF, ⟨rfl, rfl, rfl⟩ | ⟨rfl, rfl, y0⟩⟩
      · skip
        simp only [q_m6_m6, q_m6_m5, q_m6_m3, q_m6_0, q_m6_1, q_m6_2, q_m5_m6, q_m5_m5, q_m5_m3, q_m5_0, q_m5_1, q_m5_2, q_m3_m6, q_m3_m5, q_m3_m3, q_m3_0, q_m3_1, q_m3_2, q_0_m6, q_0_m5, q_0_m3, q_0_0, q_0_1, q_0_2, q_1_m6, q_1_m5, q_1_m3, q_1_0, q_1_1, q_1_2, q_2_m6, q_2_m5, q_2_m3, q_2_0, q_2_1, q_2_2, ql_0, ql2_0, ql1_0, ql_1, ql2_1, ql1_1, ql_2, ql2_2, ql1_2, if_true, if_false]
        exact ⟨_, _, rfl, rfl, rfl, hC', pd, pe⟩
      · skip
        simp only [q_m6_m6, q_m6_m5, q_m6_m3, q_m6_0, q_m6_1, q_m6_2, q_m5_m6, q_m5_m5, q_m5_m3, q_m5_0, q_m5_1, q_m5_2, q_m3_m6, q_m3_m5, q_m3_m3, q_m3_0, q_m3_1, q_m3_2, q_0_m6, q_0_m5, q_0_m3, q_0_0, q_0_1, q_0_2, q_1_m6, q_1_m5, q_1_m3, q_1_0, q_1_1, q_1_2, q_2_m6, q_2_m5, q_2_m3, q_2_0, q_2_1, q_2_2, ql_0, ql2_0, ql1_0, ql_1, ql2_1, ql1_1, ql_2, ql2_2, ql1_2, if_true, if_false]
        obtain ⟨⟨S', sd', hs1, hs2, hs3, hs4⟩, hx1, hx2, hx3, hx4⟩ := hF
        have hb : badAct = -6 ∧ badWhy = -6 := by
          rcases hx4 with ⟨_, _, q1, q2⟩ | ⟨i, y, _, q1, q2, _, q3, _, _⟩
          · exact ⟨q1, q2⟩
          · exfalso; have := nI_inj (a := 0) (b := y) (by decide) (by omega) q3; omega
        exact ⟨_, _, rfl, rfl, hb.1.symm, hC', pd, pe⟩
      · skip
        simp only [q_m6_m6, q_m6_m5, q_m6_m3, q_m6_0, q_m6_1, q_m6_2, q_m5_m6, q_m5_m5, q_m5_m3, q_m5_0, q_m5_1, q_m5_2, q_m3_m6, q_m3_m5, q_m3_m3, q_m3_0, q_m3_1, q_m3_2, q_0_m6, q_0_m5, q_0_m3, q_0_0, q_0_1, q_0_2, q_1_m6, q_1_m5, q_1_m3, q_1_0, q_1_1, q_1_2, q_2_m6, q_2_m5, q_2_m3, q_2_0, q_2_1, q_2_2, ql_0, ql2_0, ql1_0, ql_1, ql2_1, ql1_1, ql_2, ql2_2, ql1_2, if_true, if_false]
        obtain ⟨⟨S', sd', hs1, hs2, hs3, hs4⟩, hx1, hx2, hx3, hx4⟩ := hF
        have hb : badAct = acts' ∧ badWhy = why' := by
          rcases hx4 with ⟨q, _⟩ | ⟨i, y, _, _, _, q1, q2, q3, q4⟩
          · exact absurd q y0
          · exact ⟨q3.trans q1.symm, q4.trans q2.symm⟩
        exact ⟨_, _, rfl, rfl, hb.1.symm, hC', pd, pe⟩
    · obtain ⟨code, j1, j2, j3, j4, dleft, dright, dparent, dspan, droot, ddig, dhei, dprio, dby_, dopn, eleft, eright, eparent, espan, eroot, edig, ehei, eprio, eby_, eopn, ak', as', bk', bs', acts', why', work', aa', pp', mcode, mseed, is', act', which', key', other', macts, had', badAct, badWhy, maa, mpp, mwork, trees', t1, t2, pd, pe, g2, g3, hcase⟩ := try_eq hsd hS hP k1 k2 k3 k4 bleft bright bparent bspan broot bdig bhei bprio bby_ bopn cleft cright cparent cspan croot cdig chei cprio cby_ copn pb pc ak as bk bs xacts xwhy xwork xaa xpp act which key other macts0 had ba bw aa0 tw0 wk0 iw0 trees 0 (by decide)
      simp only [q_m6_m6, q_m6_m5, q_m6_m3, q_m6_0, q_m6_1, q_m6_2, q_m5_m6, q_m5_m5, q_m5_m3, q_m5_0, q_m5_1, q_m5_2, q_m3_m6, q_m3_m5, q_m3_m3, q_m3_0, q_m3_1, q_m3_2, q_0_m6, q_0_m5, q_0_m3, q_0_0, q_0_1, q_0_2, q_1_m6, q_1_m5, q_1_m3, q_1_0, q_1_1, q_1_2, q_2_m6, q_2_m5, q_2_m3, q_2_0, q_2_1, q_2_2, ql_0, ql2_0, ql1_0, ql_1, ql2_1, ql1_1, ql_2, ql2_2, ql1_2, Option.bind_some, if_true, if_false, t1, t2]
      obtain ⟨is'', b1, b2⟩ := back_eq mseed is' had' mcode
      have hC' : Core keys (nI sd) cs sds (had' 200) ms is'' so st := by rw [g3]; exact Core_back hC (fun j hj => by rw [b2 j hj, g2 j hj])
      simp only [b1, Option.bind_some]
      rcases hcase with ⟨rfl, rfl⟩ | ⟨a, ha, rfl, hF, ⟨rfl, rfl, rfl⟩ | ⟨rfl, rfl, y0⟩⟩
      · skip
        simp only [q_m6_m6, q_m6_m5, q_m6_m3, q_m6_0, q_m6_1, q_m6_2, q_m5_m6, q_m5_m5, q_m5_m3, q_m5_0, q_m5_1, q_m5_2, q_m3_m6, q_m3_m5, q_m3_m3, q_m3_0, q_m3_1, q_m3_2, q_0_m6, q_0_m5, q_0_m3, q_0_0, q_0_1, q_0_2, q_1_m6, q_1_m5, q_1_m3, q_1_0, q_1_1, q_1_2, q_2_m6, q_2_m5, q_2_m3, q_2_0, q_2_1, q_2_2, ql_0, ql2_0, ql1_0, ql_1, ql2_1, ql1_1, ql_2, ql2_2, ql1_2, if_true, if_false]
        exact ⟨_, _, rfl, rfl, rfl, hC', pd, pe⟩
      · skip
        simp only [q_m6_m6, q_m6_m5, q_m6_m3, q_m6_0, q_m6_1, q_m6_2, q_m5_m6, q_m5_m5, q_m5_m3, q_m5_0, q_m5_1, q_m5_2, q_m3_m6, q_m3_m5, q_m3_m3, q_m3_0, q_m3_1, q_m3_2, q_0_m6, q_0_m5, q_0_m3, q_0_0, q_0_1, q_0_2, q_1_m6, q_1_m5, q_1_m3, q_1_0, q_1_1, q_1_2, q_2_m6, q_2_m5, q_2_m3, q_2_0, q_2_1, q_2_2, ql_0, ql2_0, ql1_0, ql_1, ql2_1, ql1_1, ql_2, ql2_2, ql1_2, if_true, if_false]
        obtain ⟨⟨S', sd', hs1, hs2, hs3, hs4⟩, hx1, hx2, hx3, hx4⟩ := hF
        have hb : badAct = -6 ∧ badWhy = -6 := by
          rcases hx4 with ⟨_, _, q1, q2⟩ | ⟨i, y, _, q1, q2, _, q3, _, _⟩
          · exact ⟨q1, q2⟩
          · exfalso; have := nI_inj (a := 0) (b := y) (by decide) (by omega) q3; omega
        exact ⟨_, _, rfl, rfl, hb.2.symm, hC', pd, pe⟩
      · skip
        simp only [q_m6_m6, q_m6_m5, q_m6_m3, q_m6_0, q_m6_1, q_m6_2, q_m5_m6, q_m5_m5, q_m5_m3, q_m5_0, q_m5_1, q_m5_2, q_m3_m6, q_m3_m5, q_m3_m3, q_m3_0, q_m3_1, q_m3_2, q_0_m6, q_0_m5, q_0_m3, q_0_0, q_0_1, q_0_2, q_1_m6, q_1_m5, q_1_m3, q_1_0, q_1_1, q_1_2, q_2_m6, q_2_m5, q_2_m3, q_2_0, q_2_1, q_2_2, ql_0, ql2_0, ql1_0, ql_1, ql2_1, ql1_1, ql_2, ql2_2, ql1_2, if_true, if_false]
        obtain ⟨⟨S', sd', hs1, hs2, hs3, hs4⟩, hx1, hx2, hx3, hx4⟩ := hF
        have hb : badAct = acts' ∧ badWhy = why' := by
          rcases hx4 with ⟨q, _⟩ | ⟨i, y, _, _, _, q1, q2, q3, q4⟩
          · exact absurd q y0
          · exact ⟨q3.trans q1.symm, q4.trans q2.symm⟩
        exact ⟨_, _, rfl, rfl, hb.2.symm, hC', pd, pe⟩
    · obtain ⟨code, j1, j2, j3, j4, dleft, dright, dparent, dspan, droot, ddig, dhei, dprio, dby_, dopn, eleft, eright, eparent, espan, eroot, edig, ehei, eprio, eby_, eopn, ak', as', bk', bs', acts', why', work', aa', pp', mcode, mseed, is', act', which', key', other', macts, had', badAct, badWhy, maa, mpp, mwork, trees', t1, t2, pd, pe, g2, g3, hcase⟩ := try_eq hsd hS hP k1 k2 k3 k4 bleft bright bparent bspan broot bdig bhei bprio bby_ bopn cleft cright cparent cspan croot cdig chei cprio cby_ copn pb pc ak as bk bs xacts xwhy xwork xaa xpp act which key other macts0 had ba bw aa0 tw0 wk0 iw0 trees 1 (by decide)
      simp only [q_m6_m6, q_m6_m5, q_m6_m3, q_m6_0, q_m6_1, q_m6_2, q_m5_m6, q_m5_m5, q_m5_m3, q_m5_0, q_m5_1, q_m5_2, q_m3_m6, q_m3_m5, q_m3_m3, q_m3_0, q_m3_1, q_m3_2, q_0_m6, q_0_m5, q_0_m3, q_0_0, q_0_1, q_0_2, q_1_m6, q_1_m5, q_1_m3, q_1_0, q_1_1, q_1_2, q_2_m6, q_2_m5, q_2_m3, q_2_0, q_2_1, q_2_2, ql_0, ql2_0, ql1_0, ql_1, ql2_1, ql1_1, ql_2, ql2_2, ql1_2, Option.bind_some, if_true, if_false, t1, t2]
      obtain ⟨is'', b1, b2⟩ := back_eq mseed is' had' mcode
      have hC' : Core keys (nI sd) cs sds (had' 200) ms is'' so st := by rw [g3]; exact Core_back hC (fun j hj => by rw [b2 j hj, g2 j hj])
      simp only [b1, Option.bind_some]
      rcases hcase with ⟨rfl, rfl⟩ | ⟨a, ha, rfl, hF, ⟨rfl, rfl, rfl⟩ | ⟨rfl, rfl, y0⟩⟩
      · skip
        simp only [q_m6_m6, q_m6_m5, q_m6_m3, q_m6_0, q_m6_1, q_m6_2, q_m5_m6, q_m5_m5, q_m5_m3, q_m5_0, q_m5_1, q_m5_2, q_m3_m6, q_m3_m5, q_m3_m3, q_m3_0, q_m3_1, q_m3_2, q_0_m6, q_0_m5, q_0_m3, q_0_0, q_0_1, q_0_2, q_1_m6, q_1_m5, q_1_m3, q_1_0, q_1_1, q_1_2, q_2_m6, q_2_m5, q_2_m3, q_2_0, q_2_1, q_2_2, ql_0, ql2_0, ql1_0, ql_1, ql2_1, ql1_1, ql_2, ql2_2, ql1_2, if_true, if_false]
        exact ⟨_, _, rfl, rfl, rfl, hC', pd, pe⟩
      · skip
        simp only [q_m6_m6, q_m6_m5, q_m6_m3, q_m6_0, q_m6_1, q_m6_2, q_m5_m6, q_m5_m5, q_m5_m3, q_m5_0, q_m5_1, q_m5_2, q_m3_m6, q_m3_m5, q_m3_m3, q_m3_0, q_m3_1, q_m3_2, q_0_m6, q_0_m5, q_0_m3, q_0_0, q_0_1, q_0_2, q_1_m6, q_1_m5, q_1_m3, q_1_0, q_1_1, q_1_2, q_2_m6, q_2_m5, q_2_m3, q_2_0, q_2_1, q_2_2, ql_0, ql2_0, ql1_0, ql_1, ql2_1, ql1_1, ql_2, ql2_2, ql1_2, if_true, if_false]
        obtain ⟨⟨S', sd', hs1, hs2, hs3, hs4⟩, hx1, hx2, hx3, hx4⟩ := hF
        have hb : badAct = -6 ∧ badWhy = -6 := by
          rcases hx4 with ⟨_, _, q1, q2⟩ | ⟨i, y, _, q1, q2, _, q3, _, _⟩
          · exact ⟨q1, q2⟩
          · exfalso; have := nI_inj (a := 0) (b := y) (by decide) (by omega) q3; omega
        exact ⟨_, _, rfl, rfl, (hx3 (by decide)).symm, hC', pd, pe⟩
      · skip
        simp only [q_m6_m6, q_m6_m5, q_m6_m3, q_m6_0, q_m6_1, q_m6_2, q_m5_m6, q_m5_m5, q_m5_m3, q_m5_0, q_m5_1, q_m5_2, q_m3_m6, q_m3_m5, q_m3_m3, q_m3_0, q_m3_1, q_m3_2, q_0_m6, q_0_m5, q_0_m3, q_0_0, q_0_1, q_0_2, q_1_m6, q_1_m5, q_1_m3, q_1_0, q_1_1, q_1_2, q_2_m6, q_2_m5, q_2_m3, q_2_0, q_2_1, q_2_2, ql_0, ql2_0, ql1_0, ql_1, ql2_1, ql1_1, ql_2, ql2_2, ql1_2, if_true, if_false]
        obtain ⟨⟨S', sd', hs1, hs2, hs3, hs4⟩, hx1, hx2, hx3, hx4⟩ := hF
        have hb : badAct = acts' ∧ badWhy = why' := by
          rcases hx4 with ⟨q, _⟩ | ⟨i, y, _, _, _, q1, q2, q3, q4⟩
          · exact absurd q y0
          · exact ⟨q3.trans q1.symm, q4.trans q2.symm⟩
        exact ⟨_, _, rfl, rfl, rfl, hC', pd, pe⟩
  · rw [if_neg c]
    simp only [Option.bind_some, if_true, l32, le32]
    rw [show (0 : Int32).toInt = 0 from rfl, show (2 : Int32).toInt = 2 from rfl]
    by_cases c1 : v.toInt < 0
    · rw [if_pos c1]; exact ⟨_, _, rfl, rfl, rfl, hC, pb, pc⟩
    · rw [if_neg c1, if_neg (show ¬ v.toInt ≤ 2 by omega)]; exact ⟨_, _, rfl, rfl, rfl, hC, pb, pc⟩
theorem alike_eq {keys : Nat → Int64} {seed cs : Int32} {sds : Nat → Int64} {mseed0 ms : Int32} {is so st : Nat → Int32} (hC : Core keys seed cs sds mseed0 ms is so st) {signs pad : Nat → Int32} {count many : Int32} (hP : PadR signs count pad many) (k1 k2 k3 k4 : Int32) (bleft : Nat → Int32) (bright : Nat → Int32) (bparent : Nat → Int32) (bspan : Nat → Int64) (broot : Int32) (bdig : Nat → Int32) (bhei : Nat → Int32) (bprio : Nat → Int32) (bby_ : Int32) (bopn : Nat → Int32) (cleft : Nat → Int32) (cright : Nat → Int32) (cparent : Nat → Int32) (cspan : Nat → Int64) (croot : Int32) (cdig : Nat → Int32) (chei : Nat → Int32) (cprio : Nat → Int32) (cby_ : Int32) (copn : Nat → Int32) (pb : PB bprio bby_) (pc : PB cprio cby_) (ak : Nat → Int64) (as : Int32) (bk : Nat → Int64) (bs xacts xwhy xwork xaa xpp : Int32) (act which key other : Nat → Int32) (macts0 : Int32) (had : Nat → Int32) (ba bw aa0 tw0 wk0 iw0 : Int32) (trees : Nat → Int64) (v : Int32) : ∃ R1 R2, f_X7_alike keys seed signs count k1 k2 k3 k4 bleft bright bparent bspan broot bdig bhei bprio bby_ bopn cleft cright cparent cspan croot cdig chei cprio cby_ copn ak as bk bs xacts xwhy xwork xaa xpp v = some R1 ∧ f_X8_alike mseed0 is pad many act which key other macts0 had ba bw aa0 tw0 wk0 iw0 trees v = some R2 ∧ R1.1 = R2.1 ∧ Core keys seed cs sds R2.2.1 ms R2.2.2.1 so st ∧ PB (R1.2.2.2.2.2.2.2.2.2.2.2.2.1) (R1.2.2.2.2.2.2.2.2.2.2.2.2.2.1) ∧ PB (R1.2.2.2.2.2.2.2.2.2.2.2.2.2.2.2.2.2.2.2.2.2.2.1) (R1.2.2.2.2.2.2.2.2.2.2.2.2.2.2.2.2.2.2.2.2.2.2.2.1) := by
  unfold f_X7_alike f_X8_alike
  rw [in32 v 0 2 (a := 0) (b := 2) rfl rfl]
  by_cases c : 0 ≤ v.toInt ∧ v.toInt ≤ 2
  · rw [if_pos c]
    obtain ⟨S, sd, hsd, rfl, rfl, hS, hG⟩ := id hC
    rcases v012 c with rfl | rfl | rfl
    · obtain ⟨code, j1, j2, j3, j4, dleft, dright, dparent, dspan, droot, ddig, dhei, dprio, dby_, dopn, eleft, eright, eparent, espan, eroot, edig, ehei, eprio, eby_, eopn, ak', as', bk', bs', acts', why', work', aa', pp', mcode, mseed, is', act', which', key', other', macts, had', badAct, badWhy, maa, mpp, mwork, trees', t1, t2, pd, pe, g2, g3, hcase⟩ := try_eq hsd hS hP k1 k2 k3 k4 bleft bright bparent bspan broot bdig bhei bprio bby_ bopn cleft cright cparent cspan croot cdig chei cprio cby_ copn pb pc ak as bk bs xacts xwhy xwork xaa xpp act which key other macts0 had ba bw aa0 tw0 wk0 iw0 trees 0 (by decide)
      simp only [q_m6_m6, q_m6_m5, q_m6_m3, q_m6_0, q_m6_1, q_m6_2, q_m5_m6, q_m5_m5, q_m5_m3, q_m5_0, q_m5_1, q_m5_2, q_m3_m6, q_m3_m5, q_m3_m3, q_m3_0, q_m3_1, q_m3_2, q_0_m6, q_0_m5, q_0_m3, q_0_0, q_0_1, q_0_2, q_1_m6, q_1_m5, q_1_m3, q_1_0, q_1_1, q_1_2, q_2_m6, q_2_m5, q_2_m3, q_2_0, q_2_1, q_2_2, ql_0, ql2_0, ql1_0, ql_1, ql2_1, ql1_1, ql_2, ql2_2, ql1_2, Option.bind_some, if_true, if_false, t1, t2]
      have bq := fun r => back_eq mseed is' had' r
      rcases hcase with ⟨rfl, rfl⟩ | ⟨a, ha, rfl, hF, ⟨rfl, rfl, rfl⟩ | ⟨rfl, rfl, y0⟩⟩
      · skip
        obtain ⟨is'', b1, b2⟩ := bq (-5)
        have hC' : Core keys (nI sd) cs sds (had' 200) ms is'' so st := by rw [g3]; exact Core_back hC (fun j hj => by rw [b2 j hj, g2 j hj])
        simp only [q_m6_m6, q_m6_m5, q_m6_m3, q_m6_0, q_m6_1, q_m6_2, q_m5_m6, q_m5_m5, q_m5_m3, q_m5_0, q_m5_1, q_m5_2, q_m3_m6, q_m3_m5, q_m3_m3, q_m3_0, q_m3_1, q_m3_2, q_0_m6, q_0_m5, q_0_m3, q_0_0, q_0_1, q_0_2, q_1_m6, q_1_m5, q_1_m3, q_1_0, q_1_1, q_1_2, q_2_m6, q_2_m5, q_2_m3, q_2_0, q_2_1, q_2_2, ql_0, ql2_0, ql1_0, ql_1, ql2_1, ql1_1, ql_2, ql2_2, ql1_2, if_true, if_false, b1, Option.bind_some]
        exact ⟨_, _, rfl, rfl, rfl, hC', pd, pe⟩
      · skip
        obtain ⟨is'', b1, b2⟩ := bq maa
        have hC' : Core keys (nI sd) cs sds (had' 200) ms is'' so st := by rw [g3]; exact Core_back hC (fun j hj => by rw [b2 j hj, g2 j hj])
        simp only [q_m6_m6, q_m6_m5, q_m6_m3, q_m6_0, q_m6_1, q_m6_2, q_m5_m6, q_m5_m5, q_m5_m3, q_m5_0, q_m5_1, q_m5_2, q_m3_m6, q_m3_m5, q_m3_m3, q_m3_0, q_m3_1, q_m3_2, q_0_m6, q_0_m5, q_0_m3, q_0_0, q_0_1, q_0_2, q_1_m6, q_1_m5, q_1_m3, q_1_0, q_1_1, q_1_2, q_2_m6, q_2_m5, q_2_m3, q_2_0, q_2_1, q_2_2, ql_0, ql2_0, ql1_0, ql_1, ql2_1, ql1_1, ql_2, ql2_2, ql1_2, if_true, if_false, b1, Option.bind_some]
        obtain ⟨⟨S', sd', hs1, hs2, hs3, hs4⟩, hx1, hx2, hx3, hx4⟩ := hF
        exact ⟨_, _, rfl, rfl, hx1.symm, hC', pd, pe⟩
      · skip
        obtain ⟨is'', b1, b2⟩ := bq (-3)
        have hC' : Core keys (nI sd) cs sds (had' 200) ms is'' so st := by rw [g3]; exact Core_back hC (fun j hj => by rw [b2 j hj, g2 j hj])
        simp only [q_m6_m6, q_m6_m5, q_m6_m3, q_m6_0, q_m6_1, q_m6_2, q_m5_m6, q_m5_m5, q_m5_m3, q_m5_0, q_m5_1, q_m5_2, q_m3_m6, q_m3_m5, q_m3_m3, q_m3_0, q_m3_1, q_m3_2, q_0_m6, q_0_m5, q_0_m3, q_0_0, q_0_1, q_0_2, q_1_m6, q_1_m5, q_1_m3, q_1_0, q_1_1, q_1_2, q_2_m6, q_2_m5, q_2_m3, q_2_0, q_2_1, q_2_2, ql_0, ql2_0, ql1_0, ql_1, ql2_1, ql1_1, ql_2, ql2_2, ql1_2, if_true, if_false, b1, Option.bind_some]
        obtain ⟨⟨S', sd', hs1, hs2, hs3, hs4⟩, hx1, hx2, hx3, hx4⟩ := hF
        exact ⟨_, _, rfl, rfl, rfl, hC', pd, pe⟩
    · obtain ⟨code, j1, j2, j3, j4, dleft, dright, dparent, dspan, droot, ddig, dhei, dprio, dby_, dopn, eleft, eright, eparent, espan, eroot, edig, ehei, eprio, eby_, eopn, ak', as', bk', bs', acts', why', work', aa', pp', mcode, mseed, is', act', which', key', other', macts, had', badAct, badWhy, maa, mpp, mwork, trees', t1, t2, pd, pe, g2, g3, hcase⟩ := try_eq hsd hS hP k1 k2 k3 k4 bleft bright bparent bspan broot bdig bhei bprio bby_ bopn cleft cright cparent cspan croot cdig chei cprio cby_ copn pb pc ak as bk bs xacts xwhy xwork xaa xpp act which key other macts0 had ba bw aa0 tw0 wk0 iw0 trees 0 (by decide)
      simp only [q_m6_m6, q_m6_m5, q_m6_m3, q_m6_0, q_m6_1, q_m6_2, q_m5_m6, q_m5_m5, q_m5_m3, q_m5_0, q_m5_1, q_m5_2, q_m3_m6, q_m3_m5, q_m3_m3, q_m3_0, q_m3_1, q_m3_2, q_0_m6, q_0_m5, q_0_m3, q_0_0, q_0_1, q_0_2, q_1_m6, q_1_m5, q_1_m3, q_1_0, q_1_1, q_1_2, q_2_m6, q_2_m5, q_2_m3, q_2_0, q_2_1, q_2_2, ql_0, ql2_0, ql1_0, ql_1, ql2_1, ql1_1, ql_2, ql2_2, ql1_2, Option.bind_some, if_true, if_false, t1, t2]
      have bq := fun r => back_eq mseed is' had' r
      rcases hcase with ⟨rfl, rfl⟩ | ⟨a, ha, rfl, hF, ⟨rfl, rfl, rfl⟩ | ⟨rfl, rfl, y0⟩⟩
      · skip
        obtain ⟨is'', b1, b2⟩ := bq (-5)
        have hC' : Core keys (nI sd) cs sds (had' 200) ms is'' so st := by rw [g3]; exact Core_back hC (fun j hj => by rw [b2 j hj, g2 j hj])
        simp only [q_m6_m6, q_m6_m5, q_m6_m3, q_m6_0, q_m6_1, q_m6_2, q_m5_m6, q_m5_m5, q_m5_m3, q_m5_0, q_m5_1, q_m5_2, q_m3_m6, q_m3_m5, q_m3_m3, q_m3_0, q_m3_1, q_m3_2, q_0_m6, q_0_m5, q_0_m3, q_0_0, q_0_1, q_0_2, q_1_m6, q_1_m5, q_1_m3, q_1_0, q_1_1, q_1_2, q_2_m6, q_2_m5, q_2_m3, q_2_0, q_2_1, q_2_2, ql_0, ql2_0, ql1_0, ql_1, ql2_1, ql1_1, ql_2, ql2_2, ql1_2, if_true, if_false, b1, Option.bind_some]
        exact ⟨_, _, rfl, rfl, rfl, hC', pd, pe⟩
      · skip
        obtain ⟨is'', b1, b2⟩ := bq mpp
        have hC' : Core keys (nI sd) cs sds (had' 200) ms is'' so st := by rw [g3]; exact Core_back hC (fun j hj => by rw [b2 j hj, g2 j hj])
        simp only [q_m6_m6, q_m6_m5, q_m6_m3, q_m6_0, q_m6_1, q_m6_2, q_m5_m6, q_m5_m5, q_m5_m3, q_m5_0, q_m5_1, q_m5_2, q_m3_m6, q_m3_m5, q_m3_m3, q_m3_0, q_m3_1, q_m3_2, q_0_m6, q_0_m5, q_0_m3, q_0_0, q_0_1, q_0_2, q_1_m6, q_1_m5, q_1_m3, q_1_0, q_1_1, q_1_2, q_2_m6, q_2_m5, q_2_m3, q_2_0, q_2_1, q_2_2, ql_0, ql2_0, ql1_0, ql_1, ql2_1, ql1_1, ql_2, ql2_2, ql1_2, if_true, if_false, b1, Option.bind_some]
        obtain ⟨⟨S', sd', hs1, hs2, hs3, hs4⟩, hx1, hx2, hx3, hx4⟩ := hF
        exact ⟨_, _, rfl, rfl, hx2.symm, hC', pd, pe⟩
      · skip
        obtain ⟨is'', b1, b2⟩ := bq (-3)
        have hC' : Core keys (nI sd) cs sds (had' 200) ms is'' so st := by rw [g3]; exact Core_back hC (fun j hj => by rw [b2 j hj, g2 j hj])
        simp only [q_m6_m6, q_m6_m5, q_m6_m3, q_m6_0, q_m6_1, q_m6_2, q_m5_m6, q_m5_m5, q_m5_m3, q_m5_0, q_m5_1, q_m5_2, q_m3_m6, q_m3_m5, q_m3_m3, q_m3_0, q_m3_1, q_m3_2, q_0_m6, q_0_m5, q_0_m3, q_0_0, q_0_1, q_0_2, q_1_m6, q_1_m5, q_1_m3, q_1_0, q_1_1, q_1_2, q_2_m6, q_2_m5, q_2_m3, q_2_0, q_2_1, q_2_2, ql_0, ql2_0, ql1_0, ql_1, ql2_1, ql1_1, ql_2, ql2_2, ql1_2, if_true, if_false, b1, Option.bind_some]
        obtain ⟨⟨S', sd', hs1, hs2, hs3, hs4⟩, hx1, hx2, hx3, hx4⟩ := hF
        exact ⟨_, _, rfl, rfl, rfl, hC', pd, pe⟩
    · obtain ⟨code, j1, j2, j3, j4, dleft, dright, dparent, dspan, droot, ddig, dhei, dprio, dby_, dopn, eleft, eright, eparent, espan, eroot, edig, ehei, eprio, eby_, eopn, ak', as', bk', bs', acts', why', work', aa', pp', mcode, mseed, is', act', which', key', other', macts, had', badAct, badWhy, maa, mpp, mwork, trees', t1, t2, pd, pe, g2, g3, hcase⟩ := try_eq hsd hS hP k1 k2 k3 k4 bleft bright bparent bspan broot bdig bhei bprio bby_ bopn cleft cright cparent cspan croot cdig chei cprio cby_ copn pb pc ak as bk bs xacts xwhy xwork xaa xpp act which key other macts0 had ba bw aa0 tw0 wk0 iw0 trees 0 (by decide)
      simp only [q_m6_m6, q_m6_m5, q_m6_m3, q_m6_0, q_m6_1, q_m6_2, q_m5_m6, q_m5_m5, q_m5_m3, q_m5_0, q_m5_1, q_m5_2, q_m3_m6, q_m3_m5, q_m3_m3, q_m3_0, q_m3_1, q_m3_2, q_0_m6, q_0_m5, q_0_m3, q_0_0, q_0_1, q_0_2, q_1_m6, q_1_m5, q_1_m3, q_1_0, q_1_1, q_1_2, q_2_m6, q_2_m5, q_2_m3, q_2_0, q_2_1, q_2_2, ql_0, ql2_0, ql1_0, ql_1, ql2_1, ql1_1, ql_2, ql2_2, ql1_2, Option.bind_some, if_true, if_false, t1, t2]
      have bq := fun r => back_eq mseed is' had' r
      rcases hcase with ⟨rfl, rfl⟩ | ⟨a, ha, rfl, hF, ⟨rfl, rfl, rfl⟩ | ⟨rfl, rfl, y0⟩⟩
      · skip
        obtain ⟨is'', b1, b2⟩ := bq (-5)
        have hC' : Core keys (nI sd) cs sds (had' 200) ms is'' so st := by rw [g3]; exact Core_back hC (fun j hj => by rw [b2 j hj, g2 j hj])
        simp only [q_m6_m6, q_m6_m5, q_m6_m3, q_m6_0, q_m6_1, q_m6_2, q_m5_m6, q_m5_m5, q_m5_m3, q_m5_0, q_m5_1, q_m5_2, q_m3_m6, q_m3_m5, q_m3_m3, q_m3_0, q_m3_1, q_m3_2, q_0_m6, q_0_m5, q_0_m3, q_0_0, q_0_1, q_0_2, q_1_m6, q_1_m5, q_1_m3, q_1_0, q_1_1, q_1_2, q_2_m6, q_2_m5, q_2_m3, q_2_0, q_2_1, q_2_2, ql_0, ql2_0, ql1_0, ql_1, ql2_1, ql1_1, ql_2, ql2_2, ql1_2, if_true, if_false, b1, Option.bind_some]
        exact ⟨_, _, rfl, rfl, rfl, hC', pd, pe⟩
      · skip
        obtain ⟨is'', b1, b2⟩ := bq mseed
        have hC' : Core keys (nI sd) cs sds (had' 200) ms is'' so st := by rw [g3]; exact Core_back hC (fun j hj => by rw [b2 j hj, g2 j hj])
        simp only [q_m6_m6, q_m6_m5, q_m6_m3, q_m6_0, q_m6_1, q_m6_2, q_m5_m6, q_m5_m5, q_m5_m3, q_m5_0, q_m5_1, q_m5_2, q_m3_m6, q_m3_m5, q_m3_m3, q_m3_0, q_m3_1, q_m3_2, q_0_m6, q_0_m5, q_0_m3, q_0_0, q_0_1, q_0_2, q_1_m6, q_1_m5, q_1_m3, q_1_0, q_1_1, q_1_2, q_2_m6, q_2_m5, q_2_m3, q_2_0, q_2_1, q_2_2, ql_0, ql2_0, ql1_0, ql_1, ql2_1, ql1_1, ql_2, ql2_2, ql1_2, if_true, if_false, b1, Option.bind_some]
        obtain ⟨⟨S', sd', hs1, hs2, hs3, hs4⟩, hx1, hx2, hx3, hx4⟩ := hF
        exact ⟨_, _, rfl, rfl, (hs2.trans hs3.symm), hC', pd, pe⟩
      · skip
        obtain ⟨is'', b1, b2⟩ := bq (-3)
        have hC' : Core keys (nI sd) cs sds (had' 200) ms is'' so st := by rw [g3]; exact Core_back hC (fun j hj => by rw [b2 j hj, g2 j hj])
        simp only [q_m6_m6, q_m6_m5, q_m6_m3, q_m6_0, q_m6_1, q_m6_2, q_m5_m6, q_m5_m5, q_m5_m3, q_m5_0, q_m5_1, q_m5_2, q_m3_m6, q_m3_m5, q_m3_m3, q_m3_0, q_m3_1, q_m3_2, q_0_m6, q_0_m5, q_0_m3, q_0_0, q_0_1, q_0_2, q_1_m6, q_1_m5, q_1_m3, q_1_0, q_1_1, q_1_2, q_2_m6, q_2_m5, q_2_m3, q_2_0, q_2_1, q_2_2, ql_0, ql2_0, ql1_0, ql_1, ql2_1, ql1_1, ql_2, ql2_2, ql1_2, if_true, if_false, b1, Option.bind_some]
        obtain ⟨⟨S', sd', hs1, hs2, hs3, hs4⟩, hx1, hx2, hx3, hx4⟩ := hF
        exact ⟨_, _, rfl, rfl, rfl, hC', pd, pe⟩
  · rw [if_neg c]
    simp only [Option.bind_some, if_true, l32, le32]
    rw [show (0 : Int32).toInt = 0 from rfl, show (2 : Int32).toInt = 2 from rfl]
    by_cases c1 : v.toInt < 0
    · rw [if_pos c1]; exact ⟨_, _, rfl, rfl, rfl, hC, pb, pc⟩
    · rw [if_neg c1, if_neg (show ¬ v.toInt ≤ 2 by omega)]; exact ⟨_, _, rfl, rfl, rfl, hC, pb, pc⟩
end JudgePart
