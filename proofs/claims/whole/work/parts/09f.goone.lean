section GoOne
variable {S : Nat → Nat → Bool} {keys : Nat → Int64} {is : Nat → Int32} {sd s k o m i : Nat}
def new6 (ak bk : Nat → Int64) : Bool := tn ak bk 0 1 || tn ak bk 0 2 || tn ak bk 0 3 || tn ak bk 1 2 || tn ak bk 1 3 || tn ak bk 2 3
def prn (ak bk : Nat → Int64) : Nat := pr6 (tn ak bk 0 1) (tn ak bk 0 2) (tn ak bk 0 3) (tn ak bk 1 2) (tn ak bk 1 3)
theorem goOne_eq (h : SetR S keys is) (hsd : sd < 10000) (hi : i < 60) {act which key other : Nat → Int32} (e1 : act i = nI m) (e2 : which i = nI s) (e3 : key i = nI k) (e4 : other i = nI o) (hm : m < 8) (hs : s < 4) (hk : k < 50) (ho : o < 4) (hA : Allowed S sd m s k o) (aa pp work isW : Int32) (trees : Nat → Int64) (haa : aa = -6 ∨ ∃ a, a ≤ 60 ∧ aa = nI a) :
    ∃ keys' is' sd' trees' tb ta, sd' < 10000 ∧ f_X6_play keys (nI sd) (nI (kc m)) (nI s) (nI k) (nI o) = some (keys', nI sd') ∧ SetR (nx S m s k o) keys' is' ∧ TrOK sd S 200 tb ∧ TrOK sd' (nx S m s k o) 200 ta ∧
      f_X8_goOne (nI sd) is act which key other aa pp work isW trees (nI i) = some (nI sd', is', (if new6 keys' keys = true ∧ aa = -6 then (nI i, nI (prn keys' keys)) else (aa, pp)).1, (if new6 keys' keys = true ∧ aa = -6 then (nI i, nI (prn keys' keys)) else (aa, pp)).2, work + (if isW = 0 then 0 else nI (cnt (Wk (nx S m s k o) tb ta) 200)), trees') := by
  obtain ⟨keys', is', sd', hsd', p1, p2, h'⟩ := act_eq h hsd m hm hs hk ho hA
  obtain ⟨tb, f1, t1⟩ := find_eq (fun g hg => (h g hg).2.1) hsd trees
  obtain ⟨ta, f2, t2⟩ := find_eq (fun g hg => (h' g hg).2.1) hsd' trees
  have f60 : (60 : Nat) < 2 ^ 31 := by decide
  have hw : f_X8_workNow (nI sd') is' tb = some (nI (cnt (Wk (nx S m s k o) tb ta) 200)) := work_eq (fun g hg => (h' g hg).2.1) hsd' t2
  have key3 : ∀ (w : Int32) (tr : Nat → Int64), (if (MK (al keys' 0 1) (al keys' 0 2) (al keys' 0 3) (al keys' 1 2) (al keys' 1 3) (al keys' 2 3) &&& (MK (al keys 0 1) (al keys 0 2) (al keys 0 3) (al keys 1 2) (al keys 1 3) (al keys 2 3) ^^^ (-1))) = 0 then some (nI sd', is', aa, pp, w, tr) else if (0 : Int32) ≤ aa then some (nI sd', is', aa, pp, w, tr) else Option.bind (f_X8_leastOf (MK (al keys' 0 1) (al keys' 0 2) (al keys' 0 3) (al keys' 1 2) (al keys' 1 3) (al keys' 2 3) &&& (MK (al keys 0 1) (al keys 0 2) (al keys 0 3) (al keys 1 2) (al keys 1 3) (al keys 2 3) ^^^ (-1)))) (fun x12 => Option.bind (f_X8_leastOf (MK (al keys' 0 1) (al keys' 0 2) (al keys' 0 3) (al keys' 1 2) (al keys' 1 3) (al keys' 2 3) &&& (MK (al keys 0 1) (al keys 0 2) (al keys 0 3) (al keys 1 2) (al keys 1 3) (al keys 2 3) ^^^ (-1)))) (fun x13 => some (nI sd', is', nI i, (10 : Int32) * (x12 / 4) + (x13 - x13 / 4 * 4), w, tr))))
      = some (nI sd', is', (if new6 keys' keys = true ∧ aa = -6 then (nI i, nI (prn keys' keys)) else (aa, pp)).1, (if new6 keys' keys = true ∧ aa = -6 then (nI i, nI (prn keys' keys)) else (aa, pp)).2, w, tr) := by
    intro w tr
    rw [MK_new]
    by_cases c : new6 keys' keys = true
    · have c' : ¬ MK (al keys' 0 1 && !al keys 0 1) (al keys' 0 2 && !al keys 0 2) (al keys' 0 3 && !al keys 0 3) (al keys' 1 2 && !al keys 1 2) (al keys' 1 3 && !al keys 1 3) (al keys' 2 3 && !al keys 2 3) = 0 := fun q => by
        have q' : new6 keys' keys = false := (MK_zero _ _ _ _ _ _).mp q
        rw [c] at q'; exact absurd q' (by decide)
      rw [if_neg c']
      rcases haa with rfl | ⟨a, ha, rfl⟩
      · have lq : f_X8_leastOf (MK (al keys' 0 1 && !al keys 0 1) (al keys' 0 2 && !al keys 0 2) (al keys' 0 3 && !al keys 0 3) (al keys' 1 2 && !al keys 1 2) (al keys' 1 3 && !al keys 1 3) (al keys' 2 3 && !al keys 2 3)) = some (nI (lo6 (al keys' 0 1 && !al keys 0 1) (al keys' 0 2 && !al keys 0 2) (al keys' 0 3 && !al keys 0 3) (al keys' 1 2 && !al keys 1 2) (al keys' 1 3 && !al keys 1 3))) := by
          unfold f_X8_leastOf
          rw [least_eq (al keys' 0 1 && !al keys 0 1) (al keys' 0 2 && !al keys 0 2) (al keys' 0 3 && !al keys 0 3) (al keys' 1 2 && !al keys 1 2) (al keys' 1 3 && !al keys 1 3) (al keys' 2 3 && !al keys 2 3) c]; rfl
        rw [if_neg (show ¬ (0 : Int32) ≤ -6 by decide), lq, Option.bind_some, Option.bind_some, pair_eq, if_pos ⟨c, rfl⟩]
        rfl
      · have n6 : ¬ nI a = (-6 : Int32) := fun q => by
          have := congrArg Int32.toInt q
          rw [nI_toInt (by omega)] at this
          have e6 : (-6 : Int32).toInt = -6 := rfl
          omega
        rw [if_pos (show (0 : Int32) ≤ nI a from (nI_leI (a := 0) (by decide) (by omega)).mpr (by omega)), if_neg (fun q => n6 q.2)]
    · have c' : MK (al keys' 0 1 && !al keys 0 1) (al keys' 0 2 && !al keys 0 2) (al keys' 0 3 && !al keys 0 3) (al keys' 1 2 && !al keys 1 2) (al keys' 1 3 && !al keys 1 3) (al keys' 2 3 && !al keys 2 3) = 0 := (MK_zero _ _ _ _ _ _).mpr (Bool.eq_false_iff.mpr c)
      rw [if_pos c', if_neg (fun q => c q.1)]
  unfold f_X8_goOne
  rw [ones_al h]
  simp only [Option.bind_some, aget_nI hi f60, e1, e2, e3, e4, p2, ones_al h']
  by_cases z : isW = 0
  · refine ⟨keys', is', sd', trees, tb, ta, hsd', p1, h', t1, t2, ?_⟩
    simp only [z, if_true, Option.bind_some]
    exact key3 _ _
  · refine ⟨keys', is', sd', tb, tb, ta, hsd', p1, h', t1, t2, ?_⟩
    simp only [z, if_false, f1, Option.bind_some, hw]
    exact key3 _ _
end GoOne
