section DonePart
theorem done_eq {keys : Nat → Int64} {seed cs : Int32} {sds : Nat → Int64} {mseed0 ms : Int32} {is so st : Nat → Int32} (hC : Core keys seed cs sds mseed0 ms is so st) {signs pad : Nat → Int32} {count many : Int32} (hP : PadR signs count pad many) (k1 k2 k3 k4 : Int32) (bleft : Nat → Int32) (bright : Nat → Int32) (bparent : Nat → Int32) (bspan : Nat → Int64) (broot : Int32) (bdig : Nat → Int32) (bhei : Nat → Int32) (bprio : Nat → Int32) (bby_ : Int32) (bopn : Nat → Int32) (cleft : Nat → Int32) (cright : Nat → Int32) (cparent : Nat → Int32) (cspan : Nat → Int64) (croot : Int32) (cdig : Nat → Int32) (chei : Nat → Int32) (cprio : Nat → Int32) (cby_ : Int32) (copn : Nat → Int32) (pb : PB bprio bby_) (pc : PB cprio cby_) (ak : Nat → Int64) (as : Int32) (bk : Nat → Int64) (bs xacts xwhy xwork xaa xpp : Int32) (act which key other : Nat → Int32) (macts0 : Int32) (had : Nat → Int32) (ba bw aa0 tw0 wk0 iw0 : Int32) (trees : Nat → Int64) : ∃ R1 R2, f_X7_done keys seed signs count k1 k2 k3 k4 bleft bright bparent bspan broot bdig bhei bprio bby_ bopn cleft cright cparent cspan croot cdig chei cprio cby_ copn ak as bk bs xacts xwhy xwork xaa xpp = some R1 ∧ f_X8_done mseed0 is pad many act which key other macts0 had ba bw aa0 tw0 wk0 iw0 trees = some R2 ∧ R1.1 = R2.1 ∧ Core R1.2.1 R1.2.2.1 cs sds R2.2.1 ms R2.2.2.1 so st ∧ PadR signs R1.2.2.2.1 pad R2.2.2.2.1 ∧ PB (R1.2.2.2.2.2.2.2.2.2.2.2.2.2.2.2.1) (R1.2.2.2.2.2.2.2.2.2.2.2.2.2.2.2.2.1) ∧ PB (R1.2.2.2.2.2.2.2.2.2.2.2.2.2.2.2.2.2.2.2.2.2.2.2.2.2.1) (R1.2.2.2.2.2.2.2.2.2.2.2.2.2.2.2.2.2.2.2.2.2.2.2.2.2.2.1) := by
  unfold f_X7_done f_X8_done
  obtain ⟨S, sd, hsd, rfl, rfl, hS, hG⟩ := id hC
  obtain ⟨code, j1, j2, j3, j4, dleft, dright, dparent, dspan, droot, ddig, dhei, dprio, dby_, dopn, eleft, eright, eparent, espan, eroot, edig, ehei, eprio, eby_, eopn, ak', as', bk', bs', acts', why', work', aa', pp', mcode, mseed, is', act', which', key', other', macts, had', badAct, badWhy, maa, mpp, mwork, trees', t1, t2, pd, pe, g2, g3, hcase⟩ := try_eq hsd hS hP k1 k2 k3 k4 bleft bright bparent bspan broot bdig bhei bprio bby_ bopn cleft cright cparent cspan croot cdig chei cprio cby_ copn pb pc ak as bk bs xacts xwhy xwork xaa xpp act which key other macts0 had ba bw aa0 tw0 wk0 iw0 trees 0 (by decide)
  simp only [t1, t2, Option.bind_some]
  obtain ⟨is'', b1, b2⟩ := back_eq mseed is' had' mcode
  have hC' : Core keys (nI sd) cs sds (had' 200) ms is'' so st := by rw [g3]; exact Core_back hC (fun j hj => by rw [b2 j hj, g2 j hj])
  rcases hcase with ⟨rfl, rfl⟩ | ⟨a, ha, rfl, hF, ⟨rfl, rfl, rfl⟩ | ⟨rfl, rfl, y0⟩⟩
  · simp only [q_m5_0, q_m5_m6, if_false, b1, Option.bind_some]
    exact ⟨_, _, rfl, rfl, rfl, hC', hP, pd, pe⟩
  · obtain ⟨⟨S', sd', hs1, rfl, rfl, hs4⟩, hx1, hx2, hx3, hx4⟩ := hF
    have hb : acts' = nI a := by
      rcases hx4 with ⟨_, q1, _, _⟩ | ⟨i, y, _, q1, q2, _, q3, _, _⟩
      · exact q1
      · exfalso; have := nI_inj (a := 0) (b := y) (by decide) (by omega) q3; omega
    obtain ⟨k', c1, c2⟩ := cpy4 (keys := ak') (bk := keys) (nI sd') (nI sd)
    simp only [q_0_0, q_m6_m6, if_true, c1, f_X2_clear, Option.bind_some]
    exact ⟨_, _, rfl, rfl, hb, ⟨S', sd', hs1, rfl, rfl, SetR_keys hs4 c2, hG⟩, ⟨0, by decide, rfl, rfl, fun i hi => absurd hi (by omega)⟩, pd, pe⟩
  · simp only [q_m3_0, q_m3_m6, if_false, b1, Option.bind_some]
    exact ⟨_, _, rfl, rfl, rfl, hC', hP, pd, pe⟩
end DonePart
