section Keep
theorem keep_loop {is : Nat → Int32} : ∀ n i (had : Nat → Int32), i ≤ 200 → 201 ≤ i + n → ∃ had', L_X8_keepNow_2 n is had (nI i) = some had' ∧ (∀ j, i ≤ j → j < 200 → had' j = is j) ∧ (∀ j, j < i → had' j = had j) := by
  intro n
  induction n with
  | zero => intro i had h1 h2; omega
  | succ n ih =>
    intro i had h1 h2
    rw [L_X8_keepNow_2]
    by_cases c : i = 200
    · subst c; rw [if_pos (by decide)]; exact ⟨had, rfl, fun j a b => by omega, fun _ _ => rfl⟩
    · rw [lit32 200, if_neg (nI_ge (by omega) (by omega)), aget_nI (by omega) (by decide), Option.bind_some, aset_nI (by omega) (by decide), Option.bind_some, nI_one]
      obtain ⟨had', e, a1, a2⟩ := ih (i + 1) (upd had i (is i)) (by omega) (by omega)
      refine ⟨had', e, fun j b1 b2 => ?_, fun j b1 => ?_⟩
      · by_cases z : j = i
        · rw [z, a2 i (by omega), upd_s]
        · exact a1 j (by omega) b2
      · rw [a2 j (by omega), upd_n _ _ (by omega)]
theorem keep_eq (seed : Int32) (is had : Nat → Int32) : ∃ had', f_X8_keepNow seed is had = some had' ∧ (∀ j, j < 200 → had' j = is j) ∧ had' 200 = seed := by
  obtain ⟨h1, e, a1, a2⟩ := keep_loop (is := is) 20000 0 had (by omega) (by omega)
  unfold f_X8_keepNow
  rw [(show L_X8_keepNow_2 20000 is had 0 = some h1 from e), Option.bind_some, lit32 200, aset_nI (by omega) (by decide), Option.bind_some]
  exact ⟨_, rfl, fun j hj => by rw [upd_n _ _ (by omega)]; exact a1 j (by omega) hj, upd_s _ _ _⟩
theorem back_loop {had : Nat → Int32} : ∀ n i (is : Nat → Int32), i ≤ 200 → 201 ≤ i + n → ∃ is', L_X8_back_2 n is had (nI i) = some is' ∧ (∀ j, i ≤ j → j < 200 → is' j = had j) ∧ (∀ j, j < i → is' j = is j) := by
  intro n
  induction n with
  | zero => intro i is h1 h2; omega
  | succ n ih =>
    intro i is h1 h2
    rw [L_X8_back_2]
    by_cases c : i = 200
    · subst c; rw [if_pos (by decide)]; exact ⟨is, rfl, fun j a b => by omega, fun _ _ => rfl⟩
    · rw [lit32 200, if_neg (nI_ge (by omega) (by omega)), aget_nI (by omega) (by decide), Option.bind_some, aset_nI (by omega) (by decide), Option.bind_some, nI_one]
      obtain ⟨is', e, a1, a2⟩ := ih (i + 1) (upd is i (had i)) (by omega) (by omega)
      refine ⟨is', e, fun j b1 b2 => ?_, fun j b1 => ?_⟩
      · by_cases z : j = i
        · rw [z, a2 i (by omega), upd_s]
        · exact a1 j (by omega) b2
      · rw [a2 j (by omega), upd_n _ _ (by omega)]
theorem back_eq (seed : Int32) (is had : Nat → Int32) (r : Int32) : ∃ is', f_X8_back seed is had r = some (r, had 200, is') ∧ ∀ j, j < 200 → is' j = had j := by
  obtain ⟨h1, e, a1, _⟩ := back_loop (had := had) 20000 0 is (by omega) (by omega)
  unfold f_X8_back
  rw [(show L_X8_back_2 20000 is had 0 = some h1 from e), Option.bind_some, lit32 200, aget_nI (by omega) (by decide), Option.bind_some]
  exact ⟨h1, rfl, fun j hj => a1 j (by omega) hj⟩
end Keep
