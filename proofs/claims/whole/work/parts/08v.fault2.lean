section FaultLoop
theorem fault_loop {signs pad : Nat → Int32} {np : Nat} (hn : np ≤ 60) (hp : ∀ i, i < np → ∃ c, 33 ≤ c ∧ c ≤ 126 ∧ signs i = nI c ∧ pad i = nI c) : ∀ n j (act which key other : Nat → Int32) (a : Nat) (pos : Nat → Nat) (l1 m1 : Int32), j ≤ np → 61 ≤ j + n → pos a ≤ j → Dn signs (nI np) act which key other a pos → PS signs act which key other a (pos a) j l1 m1 →
    ∃ r act' which' key' other' acts', L_X2_firstFault_4 n signs (nI np) l1 (nI j) = some r ∧ L_X8_fault_9 n pad (nI np) act which key other (nI a) m1 (nI j) = some (r, act', which', key', other', acts') ∧ Out signs np r act' which' key' other' acts' := by
  intro n
  induction n with
  | zero => intro j _ _ _ _ _ _ _ _ h1 h2; omega
  | succ n ih =>
    intro j act which key other a pos l1 m1 h1 h2 h3 hD hP
    rw [L_X2_firstFault_4, L_X8_fault_9]
    by_cases c : j = np
    · subst c
      rw [if_pos ((nI_leI (by omega) (by omega)).mpr (Nat.le_refl _)), if_pos ((nI_leI (by omega) (by omega)).mpr (Nat.le_refl _))]
      by_cases c1 : l1 = 0
      · have c2 : m1 = 0 ∧ j = pos a := by
          rcases hP with ⟨_, q, q'⟩ | ⟨q, _⟩ | ⟨_, _, s, m, _, _, q, _⟩ | ⟨_, _, s, m, t, _, _, _, q, _⟩ | ⟨q, _⟩ | ⟨q, _⟩
          · exact ⟨q, q'⟩
          · rw [q] at c1; exact absurd c1 (by decide)
          · rw [q] at c1; by_cases z : m = 2
            · rw [if_pos z] at c1; exact absurd c1 (by decide)
            · rw [if_neg z] at c1; exact absurd c1 (by decide)
          · rw [q] at c1; by_cases z : m = 2
            · rw [if_pos z] at c1; exact absurd c1 (by decide)
            · rw [if_neg z] at c1; exact absurd c1 (by decide)
          · rw [q] at c1; exact absurd c1 (by decide)
          · rw [q] at c1; exact absurd c1 (by decide)
        rw [if_pos c1, if_pos c2.1]
        exact ⟨_, _, _, _, _, _, rfl, rfl, Or.inl ⟨rfl, a, pos, rfl, c2.2.symm, hD⟩⟩
      · have c2 : ¬ m1 = 0 := by
          rcases hP with ⟨q, _⟩ | ⟨_, q, _⟩ | ⟨q, _⟩ | ⟨q, _⟩ | ⟨_, q, _⟩ | ⟨_, q, _⟩
          · exact absurd q c1
          all_goals (rw [q]; decide)
        rw [if_neg c1, if_neg c2]
        exact ⟨_, _, _, _, _, _, rfl, rfl, Or.inr ⟨j, hn, rfl⟩⟩
    · obtain ⟨c, hc1, hc2, e1, e2⟩ := hp j (by omega)
      have ha := Dn_pos hD a (Nat.le_refl _)
      rw [if_neg (nI_ge (by omega) (by omega)), if_neg (nI_ge (by omega) (by omega)), aget_nI (by omega) (by decide), Option.bind_some, aget_nI (by omega) (by decide), Option.bind_some, e1, e2]
      rcases step_eq hn (by omega) (by omega) (by omega) e1 hP pos rfl hD with ⟨f1, act', which', key', other', acts', f2⟩ | ⟨l1', m1', act', which', key', other', a', pos', f1, f3, f4, f2, hD', hP'⟩
      · rw [f1, f2, Option.bind_some, Option.bind_some, if_pos rfl, if_neg (show ¬ (0 : Int32) ≤ -6 by decide)]
        exact ⟨_, _, _, _, _, _, rfl, rfl, Or.inr ⟨j, by omega, rfl⟩⟩
      · rw [f1, f2, Option.bind_some, Option.bind_some, if_neg f3, if_pos f4, nI_one]
        refine ih (j + 1) act' which' key' other' a' pos' l1' m1' (by omega) (by omega) ?_ hD' hP'
        rcases hP' with ⟨_, _, q⟩ | ⟨_, _, q, _⟩ | ⟨_, q, _⟩ | ⟨_, q, _⟩ | ⟨_, _, q, _⟩ | ⟨_, _, q, _⟩ <;> omega
theorem fault_eq {signs pad : Nat → Int32} {count many : Int32} (h : PadR signs count pad many) (act which key other : Nat → Int32) (acts : Int32) :
    ∃ r act' which' key' other' acts' np, np ≤ 60 ∧ count = nI np ∧ many = nI np ∧ f_X2_firstFault signs count = some r ∧ f_X8_fault pad many act which key other acts = some (r, act', which', key', other', acts') ∧ Out signs np r act' which' key' other' acts' := by
  obtain ⟨np, hn, rfl, rfl, hp⟩ := h
  obtain ⟨r, act', which', key', other', acts', e1, e2, e3⟩ := fault_loop hn hp 20000 0 act which key other 0 (fun _ => 0) 0 0 (by omega) (by omega) (by omega) ⟨rfl, fun i hi => absurd hi (by omega)⟩ (Or.inl ⟨rfl, rfl, rfl⟩)
  exact ⟨r, act', which', key', other', acts', np, hn, rfl, rfl, e1, e2, e3⟩
end FaultLoop
