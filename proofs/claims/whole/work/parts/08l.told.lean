section Told
variable {S : Nat → Nat → Bool} {keys : Nat → Int64} {is : Nat → Int32} {s : Nat}
/-- the class's tree of some bits: its digest, and rows that hold the tree -/
theorem digest7_eq {p : Nat → Bool} (hs : s < 10000) {prio : Nat → Int32} {by_ : Int32} (hPB : PB prio by_) {x : Int64} (hb : ∀ j, j < 50 → bx x j = p j) (left right parent : Nat → Int32) (span : Nat → Int64) (root : Int32) (dig hei opn : Nat → Int32) :
    ∃ (l' r' pa' : Nat → Int32) (sp' : Nat → Int64) (ro' : Int32) (dg' he' pr' op' : Nat → Int32), f_X7_digest left right parent span root dig hei prio by_ opn x (nI s) = some (nI (dg s p 0 50), l', r', pa', sp', ro', dg', he', pr', nI s, op') ∧ PB pr' (nI s) := by
  obtain ⟨l', r', pa', sp', ro', dg', he', pr', op', e, hT, hpr⟩ := grow_eq (s := s) hs hPB hb left right parent span root dig hei opn
  refine ⟨l', r', pa', sp', ro', dg', he', pr', op', ?_, hpr.PB hs⟩
  unfold f_X7_digest
  rw [e, Option.bind_some]
  show Option.bind (f_X4_digestBelow dg' ro') _ = _
  rw [(child_span (by omega) hT.2.1 hT.1).2.1]
  rfl
theorem sub_back {v : Int32} {c g : Nat} (h : v - nI c = nI g) : v = nI (g + c) := by
  have := congrArg (· + nI c) h
  simp only [Int32.sub_add_cancel, nI_add] at this
  exact this
theorem m_digest {p : Nat → Bool} {g : Nat} (hM : MR is g p) (hg : g < 4) (hs : s < 10000) {order : Nat → Int32} (hO : OrdOK order) (dig : Nat → Int64) (tall : Nat → Int32) : ∃ order' dig' tall', f_X8_digestOf (nI s) is order dig tall (nI g) (0 : Int32) (49 : Int32) = some (nI (dg s p 0 50), order', dig', tall') ∧ OrdOK order' ∧ DI s p dig' tall' 0 50 50 :=
  digestOf_eq hM hg hs hO dig tall (lo := 0) (hi := 50) (by omega) (by omega)
theorem in_t (n lo hi : Nat) (h : lo ≤ n ∧ n ≤ hi) (hn : n < 2 ^ 31) (hh : hi < 2 ^ 31) : f_X8_in (nI n).toInt64 (lN lo) (lN hi) = some 1 := by
  rw [in_eq, to64, nI_toInt hn, lN_toInt (by omega), lN_toInt hh, if_pos (by omega)]
theorem in_f (v : Int32) (lo hi : Nat) (h : v.toInt < lo ∨ (hi : Int) < v.toInt) (hl : lo < 2 ^ 31) (hh : hi < 2 ^ 31) : f_X8_in v.toInt64 (lN lo) (lN hi) = some 0 := by
  rw [in_eq, to64, lN_toInt hl, lN_toInt hh, if_neg (by omega)]
theorem told_eq (h : SetR S keys is) (hs : s < 10000) {prio : Nat → Int32} {by_ : Int32} (hPB : PB prio by_) {order : Nat → Int32} (hO : OrdOK order) (left right parent : Nat → Int32) (span : Nat → Int64) (root : Int32) (dig hei opn : Nat → Int32) (mdig : Nat → Int64) (tall : Nat → Int32) (pc sc : Int32) (v : Int32) :
    ∃ (r : Int32) (l' r' pa' : Nat → Int32) (sp' : Nat → Int64) (ro' : Int32) (dg' he' pr' : Nat → Int32) (by' : Int32) (op' : Nat → Int32) (order' : Nat → Int32) (mdig' : Nat → Int64) (tall' : Nat → Int32), f_X7_told keys (nI s) pc sc left right parent span root dig hei prio by_ opn v = some (r, l', r', pa', sp', ro', dg', he', pr', by', op') ∧ f_X8_told (nI s) is sc pc order mdig tall v = some (r, order', mdig', tall') ∧ PB pr' by' ∧ OrdOK order' := by
  unfold f_X7_told f_X8_told
  have k100 : (100 : Int64) = lN 100 := rfl
  have k449 : (449 : Int64) = lN 449 := rfl
  have k10 : (10 : Int64) = lN 10 := rfl
  have k13 : (13 : Int64) = lN 13 := rfl
  have k20 : (20 : Int64) = lN 20 := rfl
  have k23 : (23 : Int64) = lN 23 := rfl
  rw [k100, k449, k10, k13, k20, k23]
  by_cases c0 : v = 0
  · subst c0
    simp only [if_true, in_f 0 100 449 (by decide) (by decide) (by decide), in_f 0 10 13 (by decide) (by decide) (by decide), in_f 0 20 23 (by decide) (by decide) (by decide), Option.bind_some]
    exact ⟨_, _, _, _, _, _, _, _, _, _, _, _, _, _, rfl, rfl, hPB, hO⟩
  by_cases c1 : v = 1
  · subst c1
    simp only [n10e, if_false, if_true, in_f 1 100 449 (by decide) (by decide) (by decide), in_f 1 10 13 (by decide) (by decide) (by decide), in_f 1 20 23 (by decide) (by decide) (by decide), Option.bind_some]
    exact ⟨_, _, _, _, _, _, _, _, _, _, _, _, _, _, rfl, rfl, hPB, hO⟩
  by_cases c2 : v = 2
  · subst c2
    simp only [show ((2 : Int32) = 0) = False from propext ⟨by decide, False.elim⟩, show ((2 : Int32) = 1) = False from propext ⟨by decide, False.elim⟩, if_false, if_true, in_f 2 100 449 (by decide) (by decide) (by decide), in_f 2 10 13 (by decide) (by decide) (by decide), in_f 2 20 23 (by decide) (by decide) (by decide), Option.bind_some]
    exact ⟨_, _, _, _, _, _, _, _, _, _, _, _, _, _, rfl, rfl, hPB, hO⟩
  simp only [c0, c1, c2, if_false]
  unfold f_X7_toldOfSets
  rcases ixc (v - (10 : Int32)) 4 (by decide) with ⟨g, hg, e⟩ | o1
  · have hv : v = nI (g + 10) := sub_back (c := 10) e
    have hin : f_X8_in v.toInt64 (lN 100) (lN 449) = some 0 := in_f _ _ _ (by rw [hv, nI_toInt (by omega)]; omega) (by decide) (by decide)
    have hin2 : f_X8_in v.toInt64 (lN 10) (lN 13) = some 1 := by rw [hv]; exact in_t _ _ _ (by omega) (by omega) (by decide)
    simp only [hin, hin2, e, isSet_in hg, Option.bind_some, n10e, if_false, if_true, aget_nI hg (show 4 < 2 ^ 31 by decide), count_eq, pcx_keys h hg, many_eq (h g hg).2.1 hg]
    exact ⟨_, _, _, _, _, _, _, _, _, _, _, _, _, _, rfl, rfl, hPB, hO⟩
  rcases ixc (v - (20 : Int32)) 4 (by decide) with ⟨g, hg, e⟩ | o2
  · have hv : v = nI (g + 20) := sub_back (c := 20) e
    have hin : f_X8_in v.toInt64 (lN 100) (lN 449) = some 0 := in_f _ _ _ (by rw [hv, nI_toInt (by omega)]; omega) (by decide) (by decide)
    have hin2 : f_X8_in v.toInt64 (lN 10) (lN 13) = some 0 := in_f _ _ _ (by rw [hv, nI_toInt (by omega)]; omega) (by decide) (by decide)
    have hin3 : f_X8_in v.toInt64 (lN 20) (lN 23) = some 1 := by rw [hv]; exact in_t _ _ _ (by omega) (by omega) (by decide)
    obtain ⟨l', r', pa', sp', ro', dg', he', pr', op', e1, hpr⟩ := digest7_eq hs hPB (fun j hj => bx_key h hg hj) left right parent span root dig hei opn
    obtain ⟨order', dig', tall', e2, hO', -⟩ := m_digest (h g hg).2.1 hg hs hO mdig tall
    simp only [hin, hin2, hin3, e, isSet_out o1, isSet_in hg, Option.bind_some, n10e, if_false, if_true, aget_nI hg (show 4 < 2 ^ 31 by decide), e1, e2]
    exact ⟨_, _, _, _, _, _, _, _, _, _, _, _, _, _, rfl, rfl, hpr, hO'⟩
  have no10 : v.toInt < (10 : Nat) ∨ ((13 : Nat) : Int) < v.toInt := by
    rcases ixc v 14 (by decide) with ⟨j, hj, e⟩ | q
    · rw [e, nI_toInt (by omega)]
      by_cases w : j < 10
      · omega
      · exfalso
        have e2 : v - (10 : Int32) = nI (j - 10) := by rw [e]; exact pk_sub (a := j) (b := 10) (by omega)
        rw [e2, nI_toInt (by omega)] at o1
        omega
    · omega
  have no20 : v.toInt < (20 : Nat) ∨ ((23 : Nat) : Int) < v.toInt := by
    rcases ixc v 24 (by decide) with ⟨j, hj, e⟩ | q
    · rw [e, nI_toInt (by omega)]
      by_cases w : j < 20
      · omega
      · exfalso
        have e2 : v - (20 : Int32) = nI (j - 20) := by rw [e]; exact pk_sub (a := j) (b := 20) (by omega)
        rw [e2, nI_toInt (by omega)] at o2
        omega
    · omega
  simp only [in_f v 10 13 no10 (by decide) (by decide), in_f v 20 23 no20 (by decide) (by decide), isSet_out o1, isSet_out o2, Option.bind_some, if_true]
  rcases ixc (v / (100 : Int32) - (1 : Int32)) 4 (by decide) with ⟨g, hg, e⟩ | o3
  · have hq : v / (100 : Int32) = nI (g + 1) := sub_back (c := 1) e
    rcases ixc (v - v / (100 : Int32) * (100 : Int32)) 50 (by decide) with ⟨j, hj, e2⟩ | o4
    · have hv : v = nI (100 * (g + 1) + j) := by
        have h1 := congrArg (· + v / (100 : Int32) * (100 : Int32)) e2
        simp only [Int32.sub_add_cancel] at h1
        rw [h1, hq, lit32 100, pk_mul, nI_add]
        congr 1
        omega
      have hin : f_X8_in v.toInt64 (lN 100) (lN 449) = some 1 := by rw [hv]; exact in_t _ _ _ (by omega) (by omega) (by decide)
      have hix : (50 : Int32) * nI g + nI j = nI (50 * g + j) := by rw [lit32 50, pk_mul, nI_add]
      have hnk : ((50 : Int32) ≤ nI j) = False := propext ⟨fun q => absurd ((nI_leI (a := 50) (by decide) (by omega)).mp q) (by omega), False.elim⟩
      simp only [hin, e, e2, hnk, isSet_in hg, isKey_in hj, Option.bind_some, n10e, if_false, aget_nI hg (show 4 < 2 ^ 31 by decide), isIn_eq (keys g) (show j < 64 by omega), bx_key h hg hj, hix, aget_nI (show 50 * g + j < 200 by omega) (show 200 < 2 ^ 31 by decide), (h g hg).2.1 j hj]
      cases S g j
      · simp only [b01f, if_true]; exact ⟨_, _, _, _, _, _, _, _, _, _, _, _, _, _, rfl, rfl, hPB, hO⟩
      · simp only [b01t, n10e, if_false]; exact ⟨_, _, _, _, _, _, _, _, _, _, _, _, _, _, rfl, rfl, hPB, hO⟩
    · have big : (50 : Int32) ≤ v - v / (100 : Int32) * (100 : Int32) ∨ f_X8_in v.toInt64 (lN 100) (lN 449) = some 0 := by
        by_cases w : 0 ≤ v.toInt ∧ v.toInt ≤ 449
        · left
          rw [le32, show (50 : Int32).toInt = 50 from rfl]
          rcases ixc v 450 (by decide) with ⟨n, hn, e3⟩ | q
          · rw [e3, lit32 100, rem32 (by omega) (by decide) (by decide), nI_toInt (by omega)] at o4 ⊢
            omega
          · omega
        · right; exact in_f _ _ _ (by omega) (by decide) (by decide)
      rcases big with big | big
      · have hin2 : f_X8_in v.toInt64 (lN 100) (lN 449) = some 0 ∨ f_X8_in v.toInt64 (lN 100) (lN 449) = some 1 := by
          rw [in_eq]; split
          · exact Or.inr rfl
          · exact Or.inl rfl
        rcases hin2 with hin2 | hin2
        · simp only [hin2, e, isSet_in hg, isKey_out o4, Option.bind_some, n10e, if_false, if_true]; exact ⟨_, _, _, _, _, _, _, _, _, _, _, _, _, _, rfl, rfl, hPB, hO⟩
        · simp only [hin2, big, e, isSet_in hg, isKey_out o4, Option.bind_some, n10e, if_false, if_true]; exact ⟨_, _, _, _, _, _, _, _, _, _, _, _, _, _, rfl, rfl, hPB, hO⟩
      · simp only [big, e, isSet_in hg, isKey_out o4, Option.bind_some, n10e, if_false, if_true]
        exact ⟨_, _, _, _, _, _, _, _, _, _, _, _, _, _, rfl, rfl, hPB, hO⟩
  · have hin : f_X8_in v.toInt64 (lN 100) (lN 449) = some 0 := by
      refine in_f _ _ _ ?_ (by decide) (by decide)
      rcases ixc v 500 (by decide) with ⟨n, hn, e3⟩ | q
      · rw [e3, nI_toInt (by omega)]
        by_cases w : 100 ≤ n
        · exfalso
          have e4 : v / (100 : Int32) - (1 : Int32) = nI (n / 100 - 1) := by
            rw [e3, lit32 100, pk_div (by omega) (by decide) (by decide)]
            exact pk_sub (a := n / 100) (b := 1) (by omega)
          rw [e4, nI_toInt (by omega)] at o3
          omega
        · omega
      · omega
    simp only [hin, isSet_out o3, Option.bind_some, if_true]
    exact ⟨_, _, _, _, _, _, _, _, _, _, _, _, _, _, rfl, rfl, hPB, hO⟩
end Told
