section WorkTwo
variable {S S' : Nat → Nat → Bool} {is is' : Nat → Int32} {s s' : Nat}
theorem cnt_none {q : Nat → Bool} {a n : Nat} (h : ∀ i, i < n → q (a + i) = false) : cnt q (a + n) = cnt q a := by
  rw [cnt_shift, (cnt_zero n).mpr h]; rfl
theorem addw_loop {keys keys' : Nat → Int64} (h : SetR S keys is) (h' : SetR S' keys' is') (hs : s < 10000) (hs' : s' < 10000) {tb ta : Nat → Int64} (hb : TrOK s S 200 tb) (ha : TrOK s' S' 200 ta) (w0 : Nat) : ∀ n g w (bleft : Nat → Int32) (bright : Nat → Int32) (bparent : Nat → Int32) (bspan : Nat → Int64) (broot : Int32) (bdig : Nat → Int32) (bhei : Nat → Int32) (bprio : Nat → Int32) (bby_ : Int32) (bopn : Nat → Int32) (aleft : Nat → Int32) (aright : Nat → Int32) (aparent : Nat → Int32) (aspan : Nat → Int64) (aroot : Int32) (adig : Nat → Int32) (ahei : Nat → Int32) (aprio : Nat → Int32) (aby_ : Int32) (aopn : Nat → Int32), g ≤ 4 → 5 ≤ g + n → w = cnt (Wk S' tb ta) (50 * g) → PB bprio bby_ → PB aprio aby_ →
    ∃ (cleft : Nat → Int32) (cright : Nat → Int32) (cparent : Nat → Int32) (cspan : Nat → Int64) (croot : Int32) (cdig : Nat → Int32) (chei : Nat → Int32) (cprio : Nat → Int32) (cby_ : Int32) (copn : Nat → Int32) (dleft : Nat → Int32) (dright : Nat → Int32) (dparent : Nat → Int32) (dspan : Nat → Int64) (droot : Int32) (ddig : Nat → Int32) (dhei : Nat → Int32) (dprio : Nat → Int32) (dby_ : Int32) (dopn : Nat → Int32), L_X5_addWork_2 n bleft bright bparent bspan broot bdig bhei bprio bby_ bopn aleft aright aparent aspan aroot adig ahei aprio aby_ aopn keys' (nI s') keys (nI s) (nI (w0 + w)) (nI g) = some (cleft, cright, cparent, cspan, croot, cdig, chei, cprio, cby_, copn, dleft, dright, dparent, dspan, droot, ddig, dhei, dprio, dby_, dopn, nI (w0 + cnt (Wk S' tb ta) 200)) ∧ PB cprio cby_ ∧ PB dprio dby_ := by
  intro n
  induction n with
  | zero => intro g w bleft bright bparent bspan broot bdig bhei bprio bby_ bopn aleft aright aparent aspan aroot adig ahei aprio aby_ aopn h1 h2; omega
  | succ n ih =>
    intro g w bleft bright bparent bspan broot bdig bhei bprio bby_ bopn aleft aright aparent aspan aroot adig ahei aprio aby_ aopn h1 h2 h3 pb pa
    rw [L_X5_addWork_2]
    by_cases z : g = 4
    · subst z; rw [if_pos (by decide), h3]
      exact ⟨bleft, bright, bparent, bspan, broot, bdig, bhei, bprio, bby_, bopn, aleft, aright, aparent, aspan, aroot, adig, ahei, aprio, aby_, aopn, rfl, pb, pa⟩
    · have f4 : (4 : Nat) < 2 ^ 31 := by decide
      have hg : g < 4 := by omega
      rw [lit32 4, if_neg (nI_ge (by omega) (by omega))]
      simp only [aget_nI hg f4, Option.bind_some, lg_eq, nI_one]
      obtain ⟨cleft, cright, cparent, cspan, croot, cdig, chei, cprio, copn, e1, t1, p1⟩ := grow_eq hs pb (fun j hj => bx_key h hg hj) bleft bright bparent bspan broot bdig bhei bopn
      obtain ⟨dleft, dright, dparent, dspan, droot, ddig, dhei, dprio, dopn, e2, t2, p2⟩ := grow_eq hs' pa (fun j hj => bx_key h' hg hj) aleft aright aparent aspan aroot adig ahei aopn
      have s1 : ∀ j, j < 50 → cspan j = tb (50 * g + j) := fun j hj => by
        have q := hb (50 * g + j) (by omega)
        rw [show (50 * g + j) / 50 = g by omega, show (50 * g + j) % 50 = j by omega] at q
        exact Sp_un (Sp_tree t1 hj) q
      have s2 : ∀ j, j < 50 → dspan j = ta (50 * g + j) := fun j hj => by
        have q := ha (50 * g + j) (by omega)
        rw [show (50 * g + j) / 50 = g by omega, show (50 * g + j) % 50 = j by omega] at q
        exact Sp_un (Sp_tree t2 hj) q
      have l97 := w97_loop w0 h' hg s1 s2 20000 0 w (by omega) (by omega) h3
      rw [(show nI 0 = (0 : Int32) from rfl)] at l97
      simp only [e1, e2, Option.bind_some, l97]
      have nxt := ih (g + 1) (cnt (Wk S' tb ta) (50 * g + 50)) cleft cright cparent cspan croot cdig chei cprio (nI s) copn dleft dright dparent dspan droot ddig dhei dprio (nI s') dopn (by omega) (by omega) rfl (Priced.PB hs p1) (Priced.PB hs' p2)
      by_cases c1 : keys g = keys' g
      · by_cases c2 : nI s = nI s'
        · rw [if_pos c1, if_pos c2]
          have c3 := nI_inj (by omega) (by omega) c2
          subst c3
          refine ih (g + 1) w bleft bright bparent bspan broot bdig bhei bprio bby_ bopn aleft aright aparent aspan aroot adig ahei aprio aby_ aopn (by omega) (by omega) ?_ pb pa
          rw [h3, show 50 * (g + 1) = 50 * g + 50 by omega, cnt_none (fun i hi => ?_)]
          unfold Wk
          have q1 := hb (50 * g + i) (by omega)
          have q2 := ha (50 * g + i) (by omega)
          rw [show (50 * g + i) / 50 = g by omega, show (50 * g + i) % 50 = i by omega] at q1 q2
          have e : ta (50 * g + i) = tb (50 * g + i) := Sp_un q2 (Sp_congr hi (fun j hj => by rw [← bx_key h hg hj, ← bx_key h' hg hj, c1]) q1)
          rw [decide_eq_true e, Bool.not_true, Bool.and_false]
        · rw [if_pos c1, if_neg c2]; exact nxt
      · rw [if_neg c1]; exact nxt
theorem addWork_eq {keys keys' : Nat → Int64} (h : SetR S keys is) (h' : SetR S' keys' is') (hs : s < 10000) (hs' : s' < 10000) {tb ta : Nat → Int64} (hb : TrOK s S 200 tb) (ha : TrOK s' S' 200 ta) (w0 : Nat) (bleft : Nat → Int32) (bright : Nat → Int32) (bparent : Nat → Int32) (bspan : Nat → Int64) (broot : Int32) (bdig : Nat → Int32) (bhei : Nat → Int32) (bprio : Nat → Int32) (bby_ : Int32) (bopn : Nat → Int32) (aleft : Nat → Int32) (aright : Nat → Int32) (aparent : Nat → Int32) (aspan : Nat → Int64) (aroot : Int32) (adig : Nat → Int32) (ahei : Nat → Int32) (aprio : Nat → Int32) (aby_ : Int32) (aopn : Nat → Int32) (pb : PB bprio bby_) (pa : PB aprio aby_) :
    ∃ (cleft : Nat → Int32) (cright : Nat → Int32) (cparent : Nat → Int32) (cspan : Nat → Int64) (croot : Int32) (cdig : Nat → Int32) (chei : Nat → Int32) (cprio : Nat → Int32) (cby_ : Int32) (copn : Nat → Int32) (dleft : Nat → Int32) (dright : Nat → Int32) (dparent : Nat → Int32) (dspan : Nat → Int64) (droot : Int32) (ddig : Nat → Int32) (dhei : Nat → Int32) (dprio : Nat → Int32) (dby_ : Int32) (dopn : Nat → Int32), f_X5_addWork bleft bright bparent bspan broot bdig bhei bprio bby_ bopn aleft aright aparent aspan aroot adig ahei aprio aby_ aopn keys' (nI s') keys (nI s) (nI w0) = some (cleft, cright, cparent, cspan, croot, cdig, chei, cprio, cby_, copn, dleft, dright, dparent, dspan, droot, ddig, dhei, dprio, dby_, dopn, nI (w0 + cnt (Wk S' tb ta) 200)) ∧ PB cprio cby_ ∧ PB dprio dby_ := by
  obtain ⟨cleft, cright, cparent, cspan, croot, cdig, chei, cprio, cby_, copn, dleft, dright, dparent, dspan, droot, ddig, dhei, dprio, dby_, dopn, e, p1, p2⟩ := addw_loop h h' hs hs' hb ha w0 20000 0 0 bleft bright bparent bspan broot bdig bhei bprio bby_ bopn aleft aright aparent aspan aroot adig ahei aprio aby_ aopn (by omega) (by omega) rfl pb pa
  have e' : L_X5_addWork_2 20000 bleft bright bparent bspan broot bdig bhei bprio bby_ bopn aleft aright aparent aspan aroot adig ahei aprio aby_ aopn keys' (nI s') keys (nI s) (nI w0) 0 = some (cleft, cright, cparent, cspan, croot, cdig, chei, cprio, cby_, copn, dleft, dright, dparent, dspan, droot, ddig, dhei, dprio, dby_, dopn, nI (w0 + cnt (Wk S' tb ta) 200)) := e
  unfold f_X5_addWork
  rw [e', Option.bind_some]
  exact ⟨cleft, cright, cparent, cspan, croot, cdig, chei, cprio, cby_, copn, dleft, dright, dparent, dspan, droot, ddig, dhei, dprio, dby_, dopn, rfl, p1, p2⟩
end WorkTwo
