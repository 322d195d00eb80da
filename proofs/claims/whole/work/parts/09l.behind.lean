section BehindPart
theorem of_eq {S : Nat → Nat → Bool} {keys : Nat → Int64} {is : Nat → Int32} {s : Nat} (h : SetR S keys is) (hs : s < 10000) {g : Nat} (hg : g < 4) {prio : Nat → Int32} {by_ : Int32} (hPB : PB prio by_) {order : Nat → Int32} (hO : OrdOK order) (left right parent : Nat → Int32) (span : Nat → Int64) (root : Int32) (dig hei opn : Nat → Int32) (mdig : Nat → Int64) (tall : Nat → Int32) :
    ∃ (l' r' pa' : Nat → Int32) (sp' : Nat → Int64) (ro' : Int32) (dg' he' pr' op' : Nat → Int32) (order' : Nat → Int32) (mdig' : Nat → Int64) (tall' : Nat → Int32) (c d t : Int32), f_X4_grow left right parent span root dig hei prio by_ opn (keys g) (nI s) = some (l', r', pa', sp', ro', dg', he', pr', nI s, op') ∧ PB pr' (nI s) ∧ OrdOK order' ∧ f_X4_sizeBelow sp' ro' = some c ∧ f_X4_digestBelow dg' ro' = some d ∧ f_X4_heightBelow he' ro' = some t ∧
      ∀ v, f_X8_ofSet (nI s) is order mdig tall (nI g) v = some ((if v = (0 : Int32) then c else if v = (1 : Int32) then d else if v = (2 : Int32) then ro' else t), order', mdig', tall') := by
  obtain ⟨l', r', pa', sp', ro', dg', he', pr', op', e, hT, hpr⟩ := grow_eq (s := s) hs hPB (fun j hj => bx_key h hg hj) left right parent span root dig hei opn
  obtain ⟨order', mdig', tall', e6, hO', hDI⟩ := m_digest (h g hg).2.1 hg hs hO mdig tall
  obtain ⟨⟨x, s1, s2⟩, s3, s4⟩ := child_span (by omega) hT.2.1 hT.1
  have hx : x = keys g := Bits_un s2 (fun j hj => by rw [(h g hg).1 j hj]; unfold rs q50; simp)
  have hsz : f_X4_sizeBelow sp' ro' = some (nI (cnt (S g) 50)) := by
    unfold f_X4_sizeBelow
    rw [s1, hx]
    simp only [Option.bind_some, count_eq, pcx_keys h hg]
  obtain ⟨rt, r1, r2⟩ := rootOf_eq (h g hg).2.1 hg hs (lo := 0) (hi := 50) (by omega) (by omega)
  have r1' : f_X8_rootOf (nI s) is (nI g) (0 : Int32) (49 : Int32) = some rt := r1
  obtain rfl := RV_un r2 hT.1
  have ht' : (if (0 : Int32) ≤ rt then Option.bind (aget 50 tall' rt) (fun w => some w) else some (0 : Int32)) = some (nI (ht s (S g) 0 50)) := by
    rcases r2 with ⟨n, rfl⟩ | ⟨r, q, rfl⟩
    · rw [ht_no n]; rfl
    · have hr := q.2.1
      rw [if_pos (show (0 : Int32) ≤ nI r from (nI_leI (a := 0) (b := r) (by omega) (by omega)).mpr (Nat.zero_le _)), aget_nI hr (by decide), Option.bind_some, (hDI r (by omega) hr q.2.2.1 (rn_50 hr) _ _ (Seg_top q)).2]
  refine ⟨l', r', pa', sp', rt, dg', he', pr', op', order', mdig', tall', _, _, _, e, hpr.PB hs, hO', hsz, s3, s4, fun v => ?_⟩
  unfold f_X8_ofSet
  rw [e6]
  simp only [Option.bind_some, r1', many_eq (h g hg).2.1 hg]
  by_cases v0 : v = 0
  · simp only [v0, if_true]
  by_cases v1 : v = 1
  · simp only [v1, q_1_0, if_true, if_false]
  by_cases v2 : v = 2
  · simp only [v2, q_2_0, q_2_1, if_true, if_false]
  simp only [v0, v1, v2, if_false]
  by_cases z : (0 : Int32) ≤ rt
  · rw [if_pos z] at ht' ⊢
    cases hh : aget 50 tall' rt with
    | none => rw [hh] at ht'; exact nomatch ht'
    | some y => rw [hh, Option.bind_some] at ht'; rw [Option.bind_some, Option.some.inj ht']
  · rw [if_neg z] at ht' ⊢
    rw [← Option.some.inj ht']
theorem behind_eq {keys : Nat → Int64} {seed cs : Int32} {sds : Nat → Int64} {mseed0 ms : Int32} {is so st : Nat → Int32} (hC : Core keys seed cs sds mseed0 ms is so st) {signs pad : Nat → Int32} {count many : Int32} (hP : PadR signs count pad many) (k1 k2 k3 k4 : Int32) (bleft : Nat → Int32) (bright : Nat → Int32) (bparent : Nat → Int32) (bspan : Nat → Int64) (broot : Int32) (bdig : Nat → Int32) (bhei : Nat → Int32) (bprio : Nat → Int32) (bby_ : Int32) (bopn : Nat → Int32) (cleft : Nat → Int32) (cright : Nat → Int32) (cparent : Nat → Int32) (cspan : Nat → Int64) (croot : Int32) (cdig : Nat → Int32) (chei : Nat → Int32) (cprio : Nat → Int32) (cby_ : Int32) (copn : Nat → Int32) (pb : PB bprio bby_) (pc : PB cprio cby_) (ak : Nat → Int64) (as : Int32) (bk : Nat → Int64) (bs xacts xwhy xwork xaa xpp : Int32) (act which key other : Nat → Int32) (macts0 : Int32) (had : Nat → Int32) (ba bw aa0 tw0 wk0 iw0 : Int32) (trees : Nat → Int64) {order : Nat → Int32} (hO : OrdOK order) (mdig : Nat → Int64) (tall : Nat → Int32) (v1 v2 : Int32) : ∃ R1 R2, f_X7_behind keys seed signs count k1 k2 k3 k4 bleft bright bparent bspan broot bdig bhei bprio bby_ bopn cleft cright cparent cspan croot cdig chei cprio cby_ copn ak as bk bs xacts xwhy xwork xaa xpp v1 v2 = some R1 ∧ f_X8_behind mseed0 is pad many act which key other macts0 order mdig tall had ba bw aa0 tw0 wk0 iw0 trees v1 v2 = some R2 ∧ R1.1 = R2.1 ∧ Core keys seed cs sds R2.2.1 ms R2.2.2.1 so st ∧ PB (R1.2.2.2.2.2.2.2.2.2.2.2.2.1) (R1.2.2.2.2.2.2.2.2.2.2.2.2.2.1) ∧ PB (R1.2.2.2.2.2.2.2.2.2.2.2.2.2.2.2.2.2.2.2.2.2.2.1) (R1.2.2.2.2.2.2.2.2.2.2.2.2.2.2.2.2.2.2.2.2.2.2.2.1) ∧ OrdOK (R2.2.2.2.2.2.2.2.2.1) := by
  unfold f_X7_behind f_X8_behind
  rcases ixc v1 4 (by decide) with ⟨g, hg, rfl⟩ | hv
  · simp only [isSet_in hg, mSet_in hg, Option.bind_some, n10e, if_false]
    rw [in32 v2 0 3 (a := 0) (b := 3) rfl rfl]
    by_cases c : 0 ≤ v2.toInt ∧ v2.toInt ≤ 3
    · rw [if_pos c, if_neg (show ¬ v2 < (0 : Int32) by rw [l32]; exact fun q => absurd c.1 (by have : (0 : Int32).toInt = 0 := rfl; omega)), if_pos (show v2 ≤ (3 : Int32) by rw [le32]; exact c.2)]
      obtain ⟨S, sd, hsd, rfl, rfl, hS, hG⟩ := id hC
      obtain ⟨code, j1, j2, j3, j4, dleft, dright, dparent, dspan, droot, ddig, dhei, dprio, dby_, dopn, eleft, eright, eparent, espan, eroot, edig, ehei, eprio, eby_, eopn, ak', as', bk', bs', acts', why', work', aa', pp', mcode, mseed, is', act', which', key', other', macts, had', badAct, badWhy, maa, mpp, mwork, trees', t1, t2, pd, pe, g2, g3, hcase⟩ := try_eq hsd hS hP k1 k2 k3 k4 bleft bright bparent bspan broot bdig bhei bprio bby_ bopn cleft cright cparent cspan croot cdig chei cprio cby_ copn pb pc ak as bk bs xacts xwhy xwork xaa xpp act which key other macts0 had ba bw aa0 tw0 wk0 iw0 trees 0 (by decide)
      simp only [t1, t2, Option.bind_some, n10e, if_false]
      have bq := fun r => back_eq mseed is' had' r
      rcases hcase with ⟨rfl, rfl⟩ | ⟨a, ha, rfl, hF, ⟨rfl, rfl, rfl⟩ | ⟨rfl, rfl, y0⟩⟩
      · obtain ⟨is'', b1, b2⟩ := bq (-5)
        have hC' : Core keys (nI sd) cs sds (had' 200) ms is'' so st := by rw [g3]; exact Core_back hC (fun j hj => by rw [b2 j hj, g2 j hj])
        simp only [q_m5_0, q_m5_m6, if_false, b1, Option.bind_some]
        exact ⟨_, _, rfl, rfl, rfl, hC', pd, pe, hO⟩
      · obtain ⟨⟨S', sd', hs1, rfl, rfl, hs4⟩, -⟩ := hF
        obtain ⟨l', r', pa', sp', ro', dg', he', pr', op', order', mdig', tall', cc, dd, tt, e1, hp', hO', e2, e3, e4, e5⟩ := of_eq hs4 hs1 hg pd hO dleft dright dparent dspan droot ddig dhei dopn mdig tall
        obtain ⟨is'', b1, b2⟩ := bq (if v2 = (0 : Int32) then cc else if v2 = (1 : Int32) then dd else if v2 = (2 : Int32) then ro' else tt)
        have hC' : Core keys (nI sd) cs sds (had' 200) ms is'' so st := by rw [g3]; exact Core_back hC (fun j hj => by rw [b2 j hj, g2 j hj])
        simp only [q_0_0, q_m6_m6, if_true, aget_nI hg (show 4 < 2 ^ 31 by decide), e1, e2, e3, e4, e5 v2, b1, Option.bind_some]
        by_cases w0 : v2 = 0
        · simp only [w0, if_true]
          exact ⟨_, _, rfl, rfl, rfl, hC', hp', pe, hO'⟩
        by_cases w1 : v2 = 1
        · simp only [w1, q_1_0, if_true, if_false]
          exact ⟨_, _, rfl, rfl, rfl, hC', hp', pe, hO'⟩
        by_cases w2 : v2 = 2
        · simp only [w2, q_2_0, q_2_1, if_true, if_false]
          exact ⟨_, _, rfl, rfl, rfl, hC', hp', pe, hO'⟩
        simp only [w0, w1, w2, if_false]
        exact ⟨_, _, rfl, rfl, rfl, hC', hp', pe, hO'⟩
      · obtain ⟨is'', b1, b2⟩ := bq (-3)
        have hC' : Core keys (nI sd) cs sds (had' 200) ms is'' so st := by rw [g3]; exact Core_back hC (fun j hj => by rw [b2 j hj, g2 j hj])
        simp only [q_m3_0, q_m3_m6, if_false, b1, Option.bind_some]
        exact ⟨_, _, rfl, rfl, rfl, hC', pd, pe, hO⟩
    · rw [if_neg c]
      simp only [Option.bind_some, if_true, l32, le32]
      rw [show (0 : Int32).toInt = 0 from rfl, show (3 : Int32).toInt = 3 from rfl]
      by_cases c1 : v2.toInt < 0
      · rw [if_pos c1]; exact ⟨_, _, rfl, rfl, rfl, hC, pb, pc, hO⟩
      · rw [if_neg c1, if_neg (show ¬ v2.toInt ≤ 3 by omega)]; exact ⟨_, _, rfl, rfl, rfl, hC, pb, pc, hO⟩
  · simp only [isSet_out hv, mSet_out hv, Option.bind_some, if_true]
    exact ⟨_, _, rfl, rfl, rfl, hC, pb, pc, hO⟩
end BehindPart
