section Images
theorem Core_congr {keys keys' : Nat → Int64} {seed cs : Int32} {sds sds' : Nat → Int64} {ms md : Int32} {is is' so so' st st' : Nat → Int32} (h : Core keys seed cs sds ms md is so st) (h1 : ∀ g, g < 4 → keys' g = keys g) (h2 : ∀ w, w < 157 → sds' w = sds w) (h3 : ∀ j, j < 200 → is' j = is j) (h4 : ∀ j, j < 8 → so' j = so j) (h5 : ∀ j, j < 8 → st' j = st j) : Core keys' seed cs sds' ms md is' so' st' := by
  obtain ⟨S, sd, a1, a2, a3, a4, ns, b1, b2, b3, b4, b5⟩ := h
  refine ⟨S, sd, a1, a2, a3, fun g hg => ?_, ns, b1, b2, b3, fun e he => ?_, fun w hw i hi => ?_⟩
  · obtain ⟨c1, c2, c3⟩ := a4 g hg
    exact ⟨by rw [h1 g hg]; exact c1, fun k hk => by rw [h3 _ (by omega)]; exact c2 k hk, c3⟩
  · rw [h4 e (by omega), h5 e (by omega)]; exact b4 e he
  · rw [h2 w hw, b5 w hw i hi]
    constructor
    · intro q; exact ⟨q.1, fun e he x y hx hy => q.2 e he x y (by rw [← h4 e (by omega)]; exact hx) (by rw [← h5 e (by omega)]; exact hy)⟩
    · intro q; exact ⟨q.1, fun e he x y hx hy => q.2 e he x y (by rw [h4 e (by omega)]; exact hx) (by rw [h5 e (by omega)]; exact hy)⟩
theorem ImgR_congr {kept : Int32} {keys : Nat → Int64} {seed cs : Int32} {sds : Nat → Int64} {mk : Int32} {kf kf' : Nat → Int32} (h : ImgR kept keys seed cs sds mk kf) (e : ∀ j, j < 218 → kf' j = kf j) : ImgR kept keys seed cs sds mk kf' := by
  rcases h with h | ⟨h1, h2, h3⟩
  · exact Or.inl h
  · refine Or.inr ⟨h1, h2, ?_⟩
    rw [e 0 (by omega), e 1 (by omega)]
    exact Core_congr h3 (fun _ _ => rfl) (fun _ _ => rfl) (fun j hj => e _ (by omega)) (fun j hj => e _ (by omega)) (fun j hj => e _ (by omega))
theorem pass_w {kept : Nat → Int32} {b : Nat} (hb : b < 460) (v : Int32) : f_X8_pass kept (nI b) 1 v = some (v, upd kept b v, nI (b + 1)) := by
  unfold f_X8_pass
  rw [if_neg (by decide), Option.bind_some, aset_nI hb (by decide), Option.bind_some, nI_one]
theorem pass_r {kept : Nat → Int32} {b : Nat} (hb : b < 460) (v : Int32) : f_X8_pass kept (nI b) 0 v = some (kept b, upd kept b (kept b), nI (b + 1)) := by
  unfold f_X8_pass
  rw [if_pos rfl, aget_nI hb (by decide)]
  simp only [Option.bind_some]
  rw [aset_nI hb (by decide), Option.bind_some, nI_one]
theorem upd_same (f : Nat → Int32) (k : Nat) : ∀ j, upd f k (f k) j = f j := fun j => by
  by_cases z : j = k
  · rw [z, upd_s]
  · rw [upd_n _ _ z]
theorem roww_is {b : Nat} (hb : b + 200 ≤ 460) : ∀ n k (row kept : Nat → Int32), k ≤ 200 → 200 + 1 ≤ k + n → ∃ row' kept', L_X8_passRow_is_2 n row kept (nI (b + k)) 1 (nI 200) (nI k) = some (row', kept', nI (b + 200)) ∧ (∀ j, row' j = row j) ∧ (∀ j, k ≤ j → j < 200 → kept' (b + j) = row j) ∧ (∀ x, x < b + k ∨ b + 200 ≤ x → kept' x = kept x) := by
  intro n
  induction n with
  | zero => intro k row kept h1 h2; omega
  | succ n ih =>
    intro k row kept h1 h2
    rw [L_X8_passRow_is_2]
    by_cases c : k = 200
    · subst c
      rw [if_pos (by decide)]
      exact ⟨row, kept, rfl, fun _ => rfl, fun j a1 a2 => absurd a2 (by omega), fun _ _ => rfl⟩
    · rw [if_neg (nI_ge (by omega) (by omega)), aget_nI (by omega) (by decide), Option.bind_some, pass_w (by omega), Option.bind_some, aset_nI (by omega) (by decide), Option.bind_some, nI_one]
      obtain ⟨row', kept', e, a1, a2, a3⟩ := ih (k + 1) (upd row k (row k)) (upd kept (b + k) (row k)) (by omega) (by omega)
      refine ⟨row', kept', e, fun j => by rw [a1 j, upd_same], fun j j1 j2 => ?_, fun x hx => ?_⟩
      · by_cases z : j = k
        · rw [z, a3 (b + k) (by omega), upd_s]
        · rw [a2 j (by omega) j2, upd_same]
      · rw [a3 x (by omega), upd_n _ _ (by omega)]
theorem rowr_is {b : Nat} (hb : b + 200 ≤ 460) : ∀ n k (row kept : Nat → Int32), k ≤ 200 → 200 + 1 ≤ k + n → ∃ row' kept', L_X8_passRow_is_2 n row kept (nI (b + k)) 0 (nI 200) (nI k) = some (row', kept', nI (b + 200)) ∧ (∀ x, kept' x = kept x) ∧ (∀ j, k ≤ j → j < 200 → row' j = kept (b + j)) ∧ (∀ j, j < k ∨ 200 ≤ j → row' j = row j) := by
  intro n
  induction n with
  | zero => intro k row kept h1 h2; omega
  | succ n ih =>
    intro k row kept h1 h2
    rw [L_X8_passRow_is_2]
    by_cases c : k = 200
    · subst c
      rw [if_pos (by decide)]
      exact ⟨row, kept, rfl, fun _ => rfl, fun j a1 a2 => absurd a2 (by omega), fun _ _ => rfl⟩
    · rw [if_neg (nI_ge (by omega) (by omega)), aget_nI (by omega) (by decide), Option.bind_some, pass_r (by omega), Option.bind_some, aset_nI (by omega) (by decide), Option.bind_some, nI_one]
      obtain ⟨row', kept', e, a1, a2, a3⟩ := ih (k + 1) (upd row k (kept (b + k))) (upd kept (b + k) (kept (b + k))) (by omega) (by omega)
      refine ⟨row', kept', e, fun x => by rw [a1 x, upd_same], fun j j1 j2 => ?_, fun j hj => ?_⟩
      · by_cases z : j = k
        · rw [z, a3 k (by omega), upd_s]
        · rw [a2 j (by omega) j2, upd_same]
      · rw [a3 j (by omega), upd_n _ _ (by omega)]
theorem pw_is {b : Nat} (hb : b + 200 ≤ 460) (row kept : Nat → Int32) : ∃ row' kept', f_X8_passRow_is row kept (nI b) 1 (200 : Int32) = some (row', kept', nI (b + 200)) ∧ (∀ j, row' j = row j) ∧ (∀ j, j < 200 → kept' (b + j) = row j) ∧ (∀ x, x < b ∨ b + 200 ≤ x → kept' x = kept x) := by
  obtain ⟨row', kept', e, a1, a2, a3⟩ := roww_is hb 20000 0 row kept (by omega) (by omega)
  refine ⟨row', kept', ?_, a1, fun j hj => a2 j (by omega) hj, a3⟩
  have e' : L_X8_passRow_is_2 20000 row kept (nI b) 1 (200 : Int32) (0 : Int32) = some (row', kept', nI (b + 200)) := e
  unfold f_X8_passRow_is
  rw [e']; rfl
theorem pr_is {b : Nat} (hb : b + 200 ≤ 460) (row kept : Nat → Int32) : ∃ row' kept', f_X8_passRow_is row kept (nI b) 0 (200 : Int32) = some (row', kept', nI (b + 200)) ∧ (∀ x, kept' x = kept x) ∧ (∀ j, j < 200 → row' j = kept (b + j)) := by
  obtain ⟨row', kept', e, a1, a2, a3⟩ := rowr_is hb 20000 0 row kept (by omega) (by omega)
  refine ⟨row', kept', ?_, a1, fun j hj => a2 j (by omega) hj⟩
  have e' : L_X8_passRow_is_2 20000 row kept (nI b) 0 (200 : Int32) (0 : Int32) = some (row', kept', nI (b + 200)) := e
  unfold f_X8_passRow_is
  rw [e']; rfl
theorem roww_sightOne {b : Nat} (hb : b + 8 ≤ 460) : ∀ n k (row kept : Nat → Int32), k ≤ 8 → 8 + 1 ≤ k + n → ∃ row' kept', L_X8_passRow_sightOne_2 n row kept (nI (b + k)) 1 (nI 8) (nI k) = some (row', kept', nI (b + 8)) ∧ (∀ j, row' j = row j) ∧ (∀ j, k ≤ j → j < 8 → kept' (b + j) = row j) ∧ (∀ x, x < b + k ∨ b + 8 ≤ x → kept' x = kept x) := by
  intro n
  induction n with
  | zero => intro k row kept h1 h2; omega
  | succ n ih =>
    intro k row kept h1 h2
    rw [L_X8_passRow_sightOne_2]
    by_cases c : k = 8
    · subst c
      rw [if_pos (by decide)]
      exact ⟨row, kept, rfl, fun _ => rfl, fun j a1 a2 => absurd a2 (by omega), fun _ _ => rfl⟩
    · rw [if_neg (nI_ge (by omega) (by omega)), aget_nI (by omega) (by decide), Option.bind_some, pass_w (by omega), Option.bind_some, aset_nI (by omega) (by decide), Option.bind_some, nI_one]
      obtain ⟨row', kept', e, a1, a2, a3⟩ := ih (k + 1) (upd row k (row k)) (upd kept (b + k) (row k)) (by omega) (by omega)
      refine ⟨row', kept', e, fun j => by rw [a1 j, upd_same], fun j j1 j2 => ?_, fun x hx => ?_⟩
      · by_cases z : j = k
        · rw [z, a3 (b + k) (by omega), upd_s]
        · rw [a2 j (by omega) j2, upd_same]
      · rw [a3 x (by omega), upd_n _ _ (by omega)]
theorem rowr_sightOne {b : Nat} (hb : b + 8 ≤ 460) : ∀ n k (row kept : Nat → Int32), k ≤ 8 → 8 + 1 ≤ k + n → ∃ row' kept', L_X8_passRow_sightOne_2 n row kept (nI (b + k)) 0 (nI 8) (nI k) = some (row', kept', nI (b + 8)) ∧ (∀ x, kept' x = kept x) ∧ (∀ j, k ≤ j → j < 8 → row' j = kept (b + j)) ∧ (∀ j, j < k ∨ 8 ≤ j → row' j = row j) := by
  intro n
  induction n with
  | zero => intro k row kept h1 h2; omega
  | succ n ih =>
    intro k row kept h1 h2
    rw [L_X8_passRow_sightOne_2]
    by_cases c : k = 8
    · subst c
      rw [if_pos (by decide)]
      exact ⟨row, kept, rfl, fun _ => rfl, fun j a1 a2 => absurd a2 (by omega), fun _ _ => rfl⟩
    · rw [if_neg (nI_ge (by omega) (by omega)), aget_nI (by omega) (by decide), Option.bind_some, pass_r (by omega), Option.bind_some, aset_nI (by omega) (by decide), Option.bind_some, nI_one]
      obtain ⟨row', kept', e, a1, a2, a3⟩ := ih (k + 1) (upd row k (kept (b + k))) (upd kept (b + k) (kept (b + k))) (by omega) (by omega)
      refine ⟨row', kept', e, fun x => by rw [a1 x, upd_same], fun j j1 j2 => ?_, fun j hj => ?_⟩
      · by_cases z : j = k
        · rw [z, a3 k (by omega), upd_s]
        · rw [a2 j (by omega) j2, upd_same]
      · rw [a3 j (by omega), upd_n _ _ (by omega)]
theorem pw_sightOne {b : Nat} (hb : b + 8 ≤ 460) (row kept : Nat → Int32) : ∃ row' kept', f_X8_passRow_sightOne row kept (nI b) 1 (8 : Int32) = some (row', kept', nI (b + 8)) ∧ (∀ j, row' j = row j) ∧ (∀ j, j < 8 → kept' (b + j) = row j) ∧ (∀ x, x < b ∨ b + 8 ≤ x → kept' x = kept x) := by
  obtain ⟨row', kept', e, a1, a2, a3⟩ := roww_sightOne hb 20000 0 row kept (by omega) (by omega)
  refine ⟨row', kept', ?_, a1, fun j hj => a2 j (by omega) hj, a3⟩
  have e' : L_X8_passRow_sightOne_2 20000 row kept (nI b) 1 (8 : Int32) (0 : Int32) = some (row', kept', nI (b + 8)) := e
  unfold f_X8_passRow_sightOne
  rw [e']; rfl
theorem pr_sightOne {b : Nat} (hb : b + 8 ≤ 460) (row kept : Nat → Int32) : ∃ row' kept', f_X8_passRow_sightOne row kept (nI b) 0 (8 : Int32) = some (row', kept', nI (b + 8)) ∧ (∀ x, kept' x = kept x) ∧ (∀ j, j < 8 → row' j = kept (b + j)) := by
  obtain ⟨row', kept', e, a1, a2, a3⟩ := rowr_sightOne hb 20000 0 row kept (by omega) (by omega)
  refine ⟨row', kept', ?_, a1, fun j hj => a2 j (by omega) hj⟩
  have e' : L_X8_passRow_sightOne_2 20000 row kept (nI b) 0 (8 : Int32) (0 : Int32) = some (row', kept', nI (b + 8)) := e
  unfold f_X8_passRow_sightOne
  rw [e']; rfl
theorem roww_sightOther {b : Nat} (hb : b + 8 ≤ 460) : ∀ n k (row kept : Nat → Int32), k ≤ 8 → 8 + 1 ≤ k + n → ∃ row' kept', L_X8_passRow_sightOther_2 n row kept (nI (b + k)) 1 (nI 8) (nI k) = some (row', kept', nI (b + 8)) ∧ (∀ j, row' j = row j) ∧ (∀ j, k ≤ j → j < 8 → kept' (b + j) = row j) ∧ (∀ x, x < b + k ∨ b + 8 ≤ x → kept' x = kept x) := by
  intro n
  induction n with
  | zero => intro k row kept h1 h2; omega
  | succ n ih =>
    intro k row kept h1 h2
    rw [L_X8_passRow_sightOther_2]
    by_cases c : k = 8
    · subst c
      rw [if_pos (by decide)]
      exact ⟨row, kept, rfl, fun _ => rfl, fun j a1 a2 => absurd a2 (by omega), fun _ _ => rfl⟩
    · rw [if_neg (nI_ge (by omega) (by omega)), aget_nI (by omega) (by decide), Option.bind_some, pass_w (by omega), Option.bind_some, aset_nI (by omega) (by decide), Option.bind_some, nI_one]
      obtain ⟨row', kept', e, a1, a2, a3⟩ := ih (k + 1) (upd row k (row k)) (upd kept (b + k) (row k)) (by omega) (by omega)
      refine ⟨row', kept', e, fun j => by rw [a1 j, upd_same], fun j j1 j2 => ?_, fun x hx => ?_⟩
      · by_cases z : j = k
        · rw [z, a3 (b + k) (by omega), upd_s]
        · rw [a2 j (by omega) j2, upd_same]
      · rw [a3 x (by omega), upd_n _ _ (by omega)]
theorem rowr_sightOther {b : Nat} (hb : b + 8 ≤ 460) : ∀ n k (row kept : Nat → Int32), k ≤ 8 → 8 + 1 ≤ k + n → ∃ row' kept', L_X8_passRow_sightOther_2 n row kept (nI (b + k)) 0 (nI 8) (nI k) = some (row', kept', nI (b + 8)) ∧ (∀ x, kept' x = kept x) ∧ (∀ j, k ≤ j → j < 8 → row' j = kept (b + j)) ∧ (∀ j, j < k ∨ 8 ≤ j → row' j = row j) := by
  intro n
  induction n with
  | zero => intro k row kept h1 h2; omega
  | succ n ih =>
    intro k row kept h1 h2
    rw [L_X8_passRow_sightOther_2]
    by_cases c : k = 8
    · subst c
      rw [if_pos (by decide)]
      exact ⟨row, kept, rfl, fun _ => rfl, fun j a1 a2 => absurd a2 (by omega), fun _ _ => rfl⟩
    · rw [if_neg (nI_ge (by omega) (by omega)), aget_nI (by omega) (by decide), Option.bind_some, pass_r (by omega), Option.bind_some, aset_nI (by omega) (by decide), Option.bind_some, nI_one]
      obtain ⟨row', kept', e, a1, a2, a3⟩ := ih (k + 1) (upd row k (kept (b + k))) (upd kept (b + k) (kept (b + k))) (by omega) (by omega)
      refine ⟨row', kept', e, fun x => by rw [a1 x, upd_same], fun j j1 j2 => ?_, fun j hj => ?_⟩
      · by_cases z : j = k
        · rw [z, a3 k (by omega), upd_s]
        · rw [a2 j (by omega) j2, upd_same]
      · rw [a3 j (by omega), upd_n _ _ (by omega)]
theorem pw_sightOther {b : Nat} (hb : b + 8 ≤ 460) (row kept : Nat → Int32) : ∃ row' kept', f_X8_passRow_sightOther row kept (nI b) 1 (8 : Int32) = some (row', kept', nI (b + 8)) ∧ (∀ j, row' j = row j) ∧ (∀ j, j < 8 → kept' (b + j) = row j) ∧ (∀ x, x < b ∨ b + 8 ≤ x → kept' x = kept x) := by
  obtain ⟨row', kept', e, a1, a2, a3⟩ := roww_sightOther hb 20000 0 row kept (by omega) (by omega)
  refine ⟨row', kept', ?_, a1, fun j hj => a2 j (by omega) hj, a3⟩
  have e' : L_X8_passRow_sightOther_2 20000 row kept (nI b) 1 (8 : Int32) (0 : Int32) = some (row', kept', nI (b + 8)) := e
  unfold f_X8_passRow_sightOther
  rw [e']; rfl
theorem pr_sightOther {b : Nat} (hb : b + 8 ≤ 460) (row kept : Nat → Int32) : ∃ row' kept', f_X8_passRow_sightOther row kept (nI b) 0 (8 : Int32) = some (row', kept', nI (b + 8)) ∧ (∀ x, kept' x = kept x) ∧ (∀ j, j < 8 → row' j = kept (b + j)) := by
  obtain ⟨row', kept', e, a1, a2, a3⟩ := rowr_sightOther hb 20000 0 row kept (by omega) (by omega)
  refine ⟨row', kept', ?_, a1, fun j hj => a2 j (by omega) hj⟩
  have e' : L_X8_passRow_sightOther_2 20000 row kept (nI b) 0 (8 : Int32) (0 : Int32) = some (row', kept', nI (b + 8)) := e
  unfold f_X8_passRow_sightOther
  rw [e']; rfl
theorem all_w {b : Nat} (hb : b + 218 ≤ 460) (seed : Int32) (is so st : Nat → Int32) (sg : Int32) (kept : Nat → Int32) : ∃ is' so' st' kept' at', f_X8_passAll seed is so st sg kept (nI b) 1 = some (seed, is', so', st', sg, kept', at') ∧ (∀ j, is' j = is j) ∧ (∀ j, so' j = so j) ∧ (∀ j, st' j = st j) ∧ kept' b = seed ∧ kept' (b + 1) = sg ∧ (∀ j, j < 200 → kept' (b + (2 + j)) = is j) ∧ (∀ j, j < 8 → kept' (b + (202 + j)) = so j) ∧ (∀ j, j < 8 → kept' (b + (210 + j)) = st j) ∧ (∀ x, x < b ∨ b + 218 ≤ x → kept' x = kept x) := by
  unfold f_X8_passAll
  rw [pass_w (by omega), Option.bind_some, pass_w (by omega), Option.bind_some]
  obtain ⟨is', k1, e1, a1, a2, a3⟩ := pw_is (b := b + 1 + 1) (by omega) is (upd (upd kept b seed) (b + 1) sg)
  obtain ⟨so', k2, e2, b1, b2, b3⟩ := pw_sightOne (b := b + 1 + 1 + 200) (by omega) so k1
  obtain ⟨st', k3, e3, c1, c2, c3⟩ := pw_sightOther (b := b + 1 + 1 + 200 + 8) (by omega) st k2
  simp only [e1, e2, e3, Option.bind_some]
  refine ⟨is', so', st', k3, _, rfl, a1, b1, c1, ?_, ?_, fun j hj => ?_, fun j hj => ?_, fun j hj => ?_, fun x hx => ?_⟩
  · rw [c3 b (by omega), b3 b (by omega), a3 b (by omega), upd_n _ _ (by omega), upd_s]
  · rw [c3 (b + 1) (by omega), b3 (b + 1) (by omega), a3 (b + 1) (by omega), upd_s]
  · rw [show b + (2 + j) = b + 1 + 1 + j by omega, c3 _ (by omega), b3 _ (by omega)]; exact a2 j hj
  · rw [show b + (202 + j) = b + 1 + 1 + 200 + j by omega, c3 _ (by omega)]; exact b2 j hj
  · rw [show b + (210 + j) = b + 1 + 1 + 200 + 8 + j by omega]; exact c2 j hj
  · rw [c3 x (by omega), b3 x (by omega), a3 x (by omega), upd_n _ _ (by omega), upd_n _ _ (by omega)]
theorem all_r {b : Nat} (hb : b + 218 ≤ 460) (seed : Int32) (is so st : Nat → Int32) (sg : Int32) (kept : Nat → Int32) : ∃ is' so' st' kept' at', f_X8_passAll seed is so st sg kept (nI b) 0 = some (kept b, is', so', st', kept (b + 1), kept', at') ∧ (∀ x, kept' x = kept x) ∧ (∀ j, j < 200 → is' j = kept (b + (2 + j))) ∧ (∀ j, j < 8 → so' j = kept (b + (202 + j))) ∧ (∀ j, j < 8 → st' j = kept (b + (210 + j))) := by
  unfold f_X8_passAll
  rw [pass_r (by omega), Option.bind_some, pass_r (by omega), Option.bind_some]
  have s0 := upd_same kept b
  have s1 : ∀ x, upd (upd kept b (kept b)) (b + 1) (upd kept b (kept b) (b + 1)) x = kept x := fun x => by rw [upd_same, s0]
  obtain ⟨is', k1, e1, a1, a2⟩ := pr_is (b := b + 1 + 1) (by omega) is (upd (upd kept b (kept b)) (b + 1) (upd kept b (kept b) (b + 1)))
  obtain ⟨so', k2, e2, b1, b2⟩ := pr_sightOne (b := b + 1 + 1 + 200) (by omega) so k1
  obtain ⟨st', k3, e3, c1, c2⟩ := pr_sightOther (b := b + 1 + 1 + 200 + 8) (by omega) st k2
  simp only [e1, e2, e3, Option.bind_some]
  refine ⟨is', so', st', k3, nI (b + 1 + 1 + 200 + 8 + 8), ?_, fun x => by rw [c1, b1, a1, s1], fun j hj => ?_, fun j hj => ?_, fun j hj => ?_⟩
  · rw [s0]
  · rw [a2 j hj, s1]; congr 1; omega
  · rw [b2 j hj, a1, s1]; congr 1; omega
  · rw [c2 j hj, b1, a1, s1]; congr 1; omega
theorem cpy_in {f g : Nat → Int64} {n j : Nat} (h : j < n) : va_cpy f g 0 0 n j = f j := by
  rw [pk_cpy_in (by omega) (by omega)]
  congr 1; omega
theorem v01 {v : Int32} (h : 0 ≤ v.toInt ∧ v.toInt ≤ 1) : v = 0 ∨ v = 1 := by
  rcases ixc v 2 (by decide) with ⟨j, hj, rfl⟩ | q
  · rcases (show j = 0 ∨ j = 1 by omega) with rfl | rfl
    · exact Or.inl rfl
    · exact Or.inr rfl
  · omega
theorem image_eq {keys : Nat → Int64} {seed cs : Int32} {sds : Nat → Int64} {mseed ms : Int32} {is so st : Nat → Int32} {k0 : Int32} {ik0 : Nat → Int64} {is0 ic0 : Int32} {id0 : Nat → Int64} {k1 : Int32} {ik1 : Nat → Int64} {is1 ic1 : Int32} {id1 : Nat → Int64} {kept isK : Nat → Int32} (at_ iw : Int32)
    (hC : Core keys seed cs sds mseed ms is so st) (h0 : ImgR k0 ik0 is0 ic0 id0 (isK 0) (fun j => kept j)) (h1 : ImgR k1 ik1 is1 ic1 id1 (isK 1) (fun j => kept (230 + j))) (v : Int32) :
    ∃ R1 R2, f_X7_image keys seed cs sds k0 ik0 is0 ic0 id0 k1 ik1 is1 ic1 id1 v = some R1 ∧ f_X8_image mseed is so st ms kept isK at_ iw v = some R2 ∧ R1.1 = R2.1 ∧ Core keys seed cs sds R2.2.1 R2.2.2.2.2.2.1 R2.2.2.1 R2.2.2.2.1 R2.2.2.2.2.1 ∧
      ImgR R1.2.1 R1.2.2.1 R1.2.2.2.1 R1.2.2.2.2.1 R1.2.2.2.2.2.1 (R2.2.2.2.2.2.2.2.1 0) (fun j => R2.2.2.2.2.2.2.1 j) ∧ ImgR R1.2.2.2.2.2.2.1 R1.2.2.2.2.2.2.2.1 R1.2.2.2.2.2.2.2.2.1 R1.2.2.2.2.2.2.2.2.2.1 R1.2.2.2.2.2.2.2.2.2.2 (R2.2.2.2.2.2.2.2.1 1) (fun j => R2.2.2.2.2.2.2.1 (230 + j)) := by
  unfold f_X7_image f_X8_image
  rw [in32 v 0 1 (a := 0) (b := 1) rfl rfl]
  by_cases c : 0 ≤ v.toInt ∧ v.toInt ≤ 1
  · rw [if_pos c]
    simp only [Option.bind_some, n10e, if_false]
    have zn : vp_nar .boolean 1 = 1 := rfl
    have four : (4 : Int32).toNatClampNeg = 4 := rfl
    have big : (157 : Int32).toNatClampNeg = 157 := rfl
    rcases v01 c with rfl | rfl
    · have p0 : (230 : Int32) * (0 : Int32) = nI 0 := by decide
      obtain ⟨is', so', st', kept', at', e, a1, a2, a3, a4, a5, a6, a7, a8, a9⟩ := all_w (b := 0) (by omega) mseed is so st ms kept
      have ez : asetZ 2 isK (0 : Int32) (1 : Int32) = some (upd isK 0 1) := by
        unfold asetZ; rw [if_neg (by decide), zn]; rfl
      have q0 : ((0 : Int32) < 0) = False := propext ⟨by decide, False.elim⟩
      have q2 : ((0 : Int32) < 2) = True := propext ⟨fun _ => trivial, fun _ => by decide⟩
      simp only [p0, e, ez, q0, q2, if_false, if_true, Option.bind_some]
      unfold f_X6_copy f_X3_copy
      simp only [Option.bind_some]
      refine ⟨_, _, rfl, rfl, rfl, Core_congr hC (fun _ _ => rfl) (fun _ _ => rfl) (fun j _ => a1 j) (fun j _ => a2 j) (fun j _ => a3 j), Or.inr ⟨rfl, (show upd isK 0 1 0 = 1 from upd_s _ _ _), ?_⟩, ?_⟩
      · show Core _ _ _ _ (kept' 0) (kept' 1) (fun j => kept' (2 + j)) (fun j => kept' (202 + j)) (fun j => kept' (210 + j))
        have a5' : kept' 1 = ms := a5
        rw [a4, a5']
        exact Core_congr hC (fun g hg => by rw [four]; exact cpy_in hg) (fun w hw => by rw [big]; exact cpy_in hw) (fun j hj => by have := a6 j hj; rwa [Nat.zero_add] at this) (fun j hj => by have := a7 j hj; rwa [Nat.zero_add] at this) (fun j hj => by have := a8 j hj; rwa [Nat.zero_add] at this)
      · show ImgR _ _ _ _ _ (upd isK 0 1 1) (fun j => kept' (230 + j))
        rw [upd_n _ _ (by decide)]
        exact ImgR_congr h1 (fun j _ => a9 (230 + j) (by omega))
    · have p0 : (230 : Int32) * (1 : Int32) = nI 230 := by decide
      obtain ⟨is', so', st', kept', at', e, a1, a2, a3, a4, a5, a6, a7, a8, a9⟩ := all_w (b := 230) (by omega) mseed is so st ms kept
      have ez : asetZ 2 isK (1 : Int32) (1 : Int32) = some (upd isK 1 1) := by
        unfold asetZ; rw [if_neg (by decide), zn]; rfl
      have q0 : ((1 : Int32) < 0) = False := propext ⟨by decide, False.elim⟩
      have q2 : ((1 : Int32) < 2) = True := propext ⟨fun _ => trivial, fun _ => by decide⟩
      simp only [p0, e, ez, q0, q2, n10e, if_false, if_true, Option.bind_some]
      unfold f_X6_copy f_X3_copy
      simp only [Option.bind_some]
      refine ⟨_, _, rfl, rfl, rfl, Core_congr hC (fun _ _ => rfl) (fun _ _ => rfl) (fun j _ => a1 j) (fun j _ => a2 j) (fun j _ => a3 j), ?_, Or.inr ⟨rfl, (show upd isK 1 1 1 = 1 from upd_s _ _ _), ?_⟩⟩
      · show ImgR _ _ _ _ _ (upd isK 1 1 0) (fun j => kept' j)
        rw [upd_n _ _ (by decide)]
        exact ImgR_congr h0 (fun j hj => a9 j (by omega))
      · show Core _ _ _ _ (kept' (230 + 0)) (kept' (230 + 1)) (fun j => kept' (230 + (2 + j))) (fun j => kept' (230 + (202 + j))) (fun j => kept' (230 + (210 + j)))
        rw [show (230 + 0) = 230 from rfl, a4, a5]
        exact Core_congr hC (fun g hg => by rw [four]; exact cpy_in hg) (fun w hw => by rw [big]; exact cpy_in hw) a6 a7 a8
  · rw [if_neg c]
    simp only [Option.bind_some, if_true, l32]
    rw [show (0 : Int32).toInt = 0 from rfl, show (2 : Int32).toInt = 2 from rfl]
    by_cases c1 : v.toInt < 0
    · rw [if_pos c1]; exact ⟨_, _, rfl, rfl, rfl, hC, h0, h1⟩
    · rw [if_neg c1, if_neg (show ¬ v.toInt < 2 by omega)]; exact ⟨_, _, rfl, rfl, rfl, hC, h0, h1⟩
theorem restore_eq {keys : Nat → Int64} {seed cs : Int32} {sds : Nat → Int64} {mseed ms : Int32} {is so st : Nat → Int32} {k0 : Int32} {ik0 : Nat → Int64} {is0 ic0 : Int32} {id0 : Nat → Int64} {k1 : Int32} {ik1 : Nat → Int64} {is1 ic1 : Int32} {id1 : Nat → Int64} {kept isK : Nat → Int32} (at_ iw : Int32)
    (hC : Core keys seed cs sds mseed ms is so st) (h0 : ImgR k0 ik0 is0 ic0 id0 (isK 0) (fun j => kept j)) (h1 : ImgR k1 ik1 is1 ic1 id1 (isK 1) (fun j => kept (230 + j))) (v : Int32) :
    ∃ R1 R2, f_X7_restore keys seed cs sds k0 ik0 is0 ic0 id0 k1 ik1 is1 ic1 id1 v = some R1 ∧ f_X8_restore mseed is so st ms kept isK at_ iw v = some R2 ∧ R1.1 = R2.1 ∧ Core R1.2.1 R1.2.2.1 R1.2.2.2.1 R1.2.2.2.2 R2.2.1 R2.2.2.2.2.2.1 R2.2.2.1 R2.2.2.2.1 R2.2.2.2.2.1 ∧ (∀ x, R2.2.2.2.2.2.2.1 x = kept x) := by
  unfold f_X7_restore f_X8_restore
  rw [in32 v 0 1 (a := 0) (b := 1) rfl rfl]
  have four : (4 : Int32).toNatClampNeg = 4 := rfl
  have big : (157 : Int32).toNatClampNeg = 157 := rfl
  by_cases c : 0 ≤ v.toInt ∧ v.toInt ≤ 1
  · rw [if_pos c]
    simp only [Option.bind_some, n10e, if_false]
    rcases v01 c with rfl | rfl
    · have p0 : (230 : Int32) * (0 : Int32) = nI 0 := by decide
      have q0 : ((0 : Int32) < 0) = False := propext ⟨by decide, False.elim⟩
      have q2 : ((0 : Int32) < 2) = True := propext ⟨fun _ => trivial, fun _ => by decide⟩
      have eg : aget 2 isK (0 : Int32) = some (isK 0) := aget_nI (j := 0) (by decide) (by decide)
      simp only [p0, eg, q0, q2, if_false, if_true, Option.bind_some]
      rcases h0 with ⟨z1, z2⟩ | ⟨z1, z2, z3⟩
      · rw [z1, z2, if_pos rfl, if_pos rfl]; exact ⟨_, _, rfl, rfl, rfl, hC, fun _ => rfl⟩
      · obtain ⟨is', so', st', kept', at', e, a1, a2, a3, a4⟩ := all_r (b := 0) (by omega) mseed is so st ms kept
        unfold f_X6_copy f_X3_copy
        simp only [z1, z2, n10e, if_false, e, Option.bind_some]
        refine ⟨_, _, rfl, rfl, rfl, ?_, a1⟩
        exact Core_congr z3 (fun g hg => by rw [four]; exact cpy_in hg) (fun w hw => by rw [big]; exact cpy_in hw) (fun j hj => by have := a2 j hj; rwa [Nat.zero_add] at this) (fun j hj => by have := a3 j hj; rwa [Nat.zero_add] at this) (fun j hj => by have := a4 j hj; rwa [Nat.zero_add] at this)
    · have p0 : (230 : Int32) * (1 : Int32) = nI 230 := by decide
      have q0 : ((1 : Int32) < 0) = False := propext ⟨by decide, False.elim⟩
      have q2 : ((1 : Int32) < 2) = True := propext ⟨fun _ => trivial, fun _ => by decide⟩
      have eg : aget 2 isK (1 : Int32) = some (isK 1) := aget_nI (j := 1) (by decide) (by decide)
      simp only [p0, eg, q0, q2, n10e, if_false, if_true, Option.bind_some]
      rcases h1 with ⟨z1, z2⟩ | ⟨z1, z2, z3⟩
      · rw [z1, z2, if_pos rfl, if_pos rfl]; exact ⟨_, _, rfl, rfl, rfl, hC, fun _ => rfl⟩
      · obtain ⟨is', so', st', kept', at', e, a1, a2, a3, a4⟩ := all_r (b := 230) (by omega) mseed is so st ms kept
        unfold f_X6_copy f_X3_copy
        simp only [z1, z2, n10e, if_false, e, Option.bind_some]
        refine ⟨_, _, rfl, rfl, rfl, ?_, a1⟩
        exact Core_congr z3 (fun g hg => by rw [four]; exact cpy_in hg) (fun w hw => by rw [big]; exact cpy_in hw) a2 a3 a4
  · rw [if_neg c]
    simp only [Option.bind_some, if_true, l32]
    rw [show (0 : Int32).toInt = 0 from rfl, show (2 : Int32).toInt = 2 from rfl]
    by_cases c1 : v.toInt < 0
    · rw [if_pos c1]; exact ⟨_, _, rfl, rfl, rfl, hC, fun _ => rfl⟩
    · rw [if_neg c1, if_neg (show ¬ v.toInt < 2 by omega)]; exact ⟨_, _, rfl, rfl, rfl, hC, fun _ => rfl⟩
end Images
