section Play
variable {S : Nat → Nat → Bool} {keys : Nat → Int64} {is : Nat → Int32} {sd s k o : Nat}
def byB (m : Nat) (a b : Bool) : Bool := if m = 4 then b else if m = 6 then a && !b else a || b
def nx (S : Nat → Nat → Bool) (m s k o : Nat) : Nat → Nat → Bool := fun g j =>
  if m = 0 then (if g = s ∧ j = k then true else S g j) else if m = 1 then (if g = s ∧ j = k then false else S g j) else
  if m = 2 then (if g = s then S s j && decide (j < k) else if g = o then S s j && !decide (j < k) else S g j) else
  if m = 7 then S g j else
  if g = s then byB m (S s j) (S o j) else if g = o ∧ m = 3 then false else S g j
theorem by_eq (m : Nat) (hm : 3 ≤ m ∧ m < 7) (a b : Bool) : f_X8_by (nI m) (b01 a) (b01 b) = some (b01 (byB m a b)) := by
  rcases (show m = 3 ∨ m = 4 ∨ m = 5 ∨ m = 6 by omega) with rfl | rfl | rfl | rfl <;> cases a <;> cases b <;> decide
def MAll (is : Nat → Int32) (T : Nat → Nat → Bool) : Prop := ∀ g, g < 4 → MR is g (T g)
def mixT (S N : Nat → Nat → Bool) (lo k : Nat) : Nat → Nat → Bool := fun g j => if lo ≤ j ∧ j < k then N g j else S g j
theorem mix_step {is : Nat → Int32} {S N : Nat → Nat → Bool} {lo k s o : Nat} {x y : Int32} (hlo : lo ≤ k) (hk : k < 50) (h : MAll is (mixT S N lo k)) (hs : s < 4) (ho : o < 4) (hso : s ≠ o) (hx : x = b01 (N s k)) (hy : y = b01 (N o k)) (hN : ∀ g, g < 4 → g ≠ s → g ≠ o → N g k = S g k) : MAll (upd (upd is (50 * s + k) x) (50 * o + k) y) (mixT S N lo (k + 1)) := by
  intro g hg j hj
  by_cases c : j = k
  · subst c
    have e : mixT S N lo (j + 1) g j = N g j := by unfold mixT; rw [if_pos (by omega)]
    rw [e]
    by_cases c1 : g = o
    · subst c1; rw [upd_s, hy]
    · rw [upd_n _ _ (by omega)]
      by_cases c2 : g = s
      · subst c2; rw [upd_s, hx]
      · rw [upd_n _ _ (by omega), h g hg j hj, hN g hg c2 c1]
        unfold mixT; rw [if_neg (by omega)]
  · rw [upd_n _ _ (by omega), upd_n _ _ (by omega), h g hg j hj]
    unfold mixT
    by_cases c2 : lo ≤ j ∧ j < k
    · rw [if_pos c2, if_pos (by omega)]
    · rw [if_neg c2, if_neg (by omega)]
theorem mix_0 {is : Nat → Int32} {S N : Nat → Nat → Bool} {lo : Nat} (h : MAll is S) : MAll is (mixT S N lo lo) := fun g hg j hj => by
  rw [h g hg j hj]; unfold mixT; rw [if_neg (by omega)]
theorem both_loop {m : Nat} (hm : 3 ≤ m ∧ m < 7) (hs : s < 4) (ho : o < 4) (hso : s ≠ o) : ∀ n j (is : Nat → Int32), j ≤ 50 → 51 ≤ j + n → MAll is (mixT S (nx S m s k o) 0 j) → ∃ is', L_X8_both_3 n is (nI m) (nI s) (nI o) (nI j) = some is' ∧ MAll is' (mixT S (nx S m s k o) 0 50) := by
  intro n
  induction n with
  | zero => intro j is h1 h2; omega
  | succ n ih =>
    intro j is h1 h2 h
    rw [L_X8_both_3]
    by_cases c : j = 50
    · subst c; rw [if_pos (by decide)]; exact ⟨is, rfl, h⟩
    · have q1 : is (50 * s + j) = b01 (S s j) := by rw [h s hs j (by omega)]; unfold mixT; rw [if_neg (by omega)]
      have q2 : is (50 * o + j) = b01 (S o j) := by rw [h o ho j (by omega)]; unfold mixT; rw [if_neg (by omega)]
      have nk : nx S m s k o s j = byB m (S s j) (S o j) := by
        unfold nx; rw [if_neg (by omega), if_neg (by omega), if_neg (by omega), if_neg (by omega), if_pos rfl]
      have ng : ∀ g, g ≠ s → g ≠ o → nx S m s k o g j = S g j := fun g a b => by
        unfold nx; rw [if_neg (by omega), if_neg (by omega), if_neg (by omega), if_neg (by omega), if_neg a, if_neg (fun q => b q.1)]
      rw [lit32 50, if_neg (nI_ge (by omega) (by omega)), pk_mul, nI_add, pk_mul, nI_add, aget_nI (by omega) (by decide), Option.bind_some, aget_nI (by omega) (by decide), Option.bind_some, q1, q2, by_eq m hm, Option.bind_some, aset_nI (by omega) (by decide), Option.bind_some, aset_nI (by omega) (by decide), Option.bind_some, aget_nI (by omega) (by decide), Option.bind_some, aset_nI (by omega) (by decide), Option.bind_some, nI_one]
      by_cases c3 : m = 3
      · have no : nx S m s k o o j = false := by
          unfold nx; rw [if_neg (by omega), if_neg (by omega), if_neg (by omega), if_neg (by omega), if_neg (fun q => hso q.symm), if_pos ⟨rfl, c3⟩]
        rw [if_pos (show nI m = (3 : Int32) by rw [c3]; rfl)]
        exact ih (j + 1) _ (by omega) (by omega) (mix_step (by omega) (by omega) h hs ho hso (by rw [nk]) (by rw [no]; rfl) (fun g _ a b => ng g a b))
      · have no : nx S m s k o o j = S o j := by
          unfold nx; rw [if_neg (by omega), if_neg (by omega), if_neg (by omega), if_neg (by omega), if_neg (fun q => hso q.symm), if_neg (fun q => c3 q.2)]
        rw [if_neg (show ¬ nI m = (3 : Int32) from fun q => c3 (nI_inj (a := m) (b := 3) (by omega) (by decide) q))]
        exact ih (j + 1) _ (by omega) (by omega) (mix_step (by omega) (by omega) h hs ho hso (by rw [nk]) (by rw [no, upd_n _ _ (by omega), q2]) (fun g _ a b => ng g a b))
theorem part_loop (hs : s < 4) (ho : o < 4) (hso : s ≠ o) : ∀ n j (is : Nat → Int32), k ≤ j → j ≤ 50 → 51 ≤ j + n → MAll is (mixT S (nx S 2 s k o) k j) → ∃ is', L_X8_part_3 n is (nI s) (nI o) (nI j) = some is' ∧ MAll is' (mixT S (nx S 2 s k o) k 50) := by
  intro n
  induction n with
  | zero => intro j is h0 h1 h2; omega
  | succ n ih =>
    intro j is h0 h1 h2 h
    rw [L_X8_part_3]
    by_cases c : j = 50
    · subst c; rw [if_pos (by decide)]; exact ⟨is, rfl, h⟩
    · have q1 : is (50 * s + j) = b01 (S s j) := by rw [h s hs j (by omega)]; unfold mixT; rw [if_neg (by omega)]
      have e2 : ∀ g, nx S 2 s k o g j = (if g = s then S s j && decide (j < k) else if g = o then S s j && !decide (j < k) else S g j) := fun g => rfl
      rw [lit32 50, if_neg (nI_ge (by omega) (by omega)), pk_mul, nI_add, pk_mul, nI_add, aget_nI (by omega) (by decide), Option.bind_some, aset_nI (by omega) (by decide), Option.bind_some, aset_nI (by omega) (by decide), Option.bind_some, nI_one]
      refine ih (j + 1) _ (by omega) (by omega) (by omega) (mix_step h0 (by omega) h ho hs (fun q => hso q.symm) ?_ ?_ (fun g _ a b => ?_))
      · rw [e2, if_neg (fun q => hso q.symm), if_pos rfl, q1, decide_eq_false (show ¬ j < k by omega)]
        cases S s j <;> rfl
      · rw [e2, if_pos rfl, decide_eq_false (show ¬ j < k by omega), Bool.and_false]; rfl
      · rw [e2, if_neg b, if_neg a]
theorem MAll_congr {T T' : Nat → Nat → Bool} (h : MAll is T) (e : ∀ g j, g < 4 → j < 50 → T' g j = T g j) : MAll is T' := fun g hg j hj => by rw [h g hg j hj, e g j hg hj]
theorem happen_eq (h : SetR S keys is) (m : Nat) (hm : m < 8) (hs : s < 4) (hk : k < 50) (ho : o < 4) (hA : Allowed S sd m s k o) : ∃ is', f_X8_happen (nI sd) is (nI m) (nI s) (nI k) (nI o) = some (nI (if m = 7 then sd + 1 else sd), is') ∧ MAll is' (nx S m s k o) := by
  have hM : MAll is S := fun g hg => (h g hg).2.1
  obtain ⟨-, -, -, hso, hem, -⟩ := hA
  unfold f_X8_happen f_X8_part f_X8_both
  rcases (show m = 0 ∨ m = 1 ∨ m = 2 ∨ m = 3 ∨ m = 4 ∨ m = 5 ∨ m = 6 ∨ m = 7 by omega) with rfl | rfl | rfl | rfl | rfl | rfl | rfl | rfl
  · simp only [mq0_0, if_true]
    rw [lit32 50, pk_mul, nI_add, aset_nI (by omega) (by decide), Option.bind_some]
    refine ⟨_, rfl, fun g hg j hj => ?_⟩
    show _ = b01 (if g = s ∧ j = k then true else S g j)
    by_cases c : g = s ∧ j = k
    · rw [if_pos c, c.1, c.2, upd_s]; rfl
    · rw [if_neg c, upd_n _ _ (by omega), hM g hg j hj]
  · simp only [mq1_0, mq1_1, if_true, if_false]
    rw [lit32 50, pk_mul, nI_add, aset_nI (by omega) (by decide), Option.bind_some]
    refine ⟨_, rfl, fun g hg j hj => ?_⟩
    show _ = b01 (if g = s ∧ j = k then false else S g j)
    by_cases c : g = s ∧ j = k
    · rw [if_pos c, c.1, c.2, upd_s]; rfl
    · rw [if_neg c, upd_n _ _ (by omega), hM g hg j hj]
  · simp only [mq2_0, mq2_1, mq2_2, if_true, if_false]
    obtain ⟨is', e, h'⟩ := part_loop (S := S) (k := k) hs ho (hso (by omega) (by omega)) 20000 k is (by omega) (by omega) (by omega) (mix_0 hM)
    rw [e]
    refine ⟨is', rfl, MAll_congr h' (fun g j hg hj => ?_)⟩
    unfold mixT
    by_cases c : k ≤ j ∧ j < 50
    · rw [if_pos c]
    · rw [if_neg c]
      show (if g = s then S s j && decide (j < k) else if g = o then S s j && !decide (j < k) else S g j) = S g j
      have jk : j < k := by omega
      rw [decide_eq_true jk]
      by_cases c1 : g = s
      · rw [if_pos c1, c1, Bool.and_true]
      · rw [if_neg c1]
        by_cases c2 : g = o
        · rw [if_pos c2, c2, hem rfl j hj]; cases S s j <;> rfl
        · rw [if_neg c2]
  · simp only [mq3_0, mq3_1, mq3_2, mq3_3, if_true, if_false]
    obtain ⟨is', e, h'⟩ := both_loop (S := S) (k := k) (m := 3) (by omega) hs ho (hso (by omega) (by omega)) 20000 0 is (by omega) (by omega) (mix_0 hM)
    rw [(show L_X8_both_3 20000 is (nI 3) (nI s) (nI o) 0 = some is' from e)]
    exact ⟨is', rfl, MAll_congr h' (fun g j hg hj => by unfold mixT; rw [if_pos (by omega)])⟩
  · simp only [mq4_0, mq4_1, mq4_2, mq4_3, mq4_4, if_true, if_false]
    obtain ⟨is', e, h'⟩ := both_loop (S := S) (k := k) (m := 4) (by omega) hs ho (hso (by omega) (by omega)) 20000 0 is (by omega) (by omega) (mix_0 hM)
    rw [(show L_X8_both_3 20000 is (nI 4) (nI s) (nI o) 0 = some is' from e)]
    exact ⟨is', rfl, MAll_congr h' (fun g j hg hj => by unfold mixT; rw [if_pos (by omega)])⟩
  · simp only [mq5_0, mq5_1, mq5_2, mq5_3, mq5_4, mq5_5, if_true, if_false]
    obtain ⟨is', e, h'⟩ := both_loop (S := S) (k := k) (m := 5) (by omega) hs ho (hso (by omega) (by omega)) 20000 0 is (by omega) (by omega) (mix_0 hM)
    rw [(show L_X8_both_3 20000 is (nI 5) (nI s) (nI o) 0 = some is' from e)]
    exact ⟨is', rfl, MAll_congr h' (fun g j hg hj => by unfold mixT; rw [if_pos (by omega)])⟩
  · simp only [mq6_0, mq6_1, mq6_2, mq6_3, mq6_4, mq6_5, mq6_6, if_true, if_false]
    obtain ⟨is', e, h'⟩ := both_loop (S := S) (k := k) (m := 6) (by omega) hs ho (hso (by omega) (by omega)) 20000 0 is (by omega) (by omega) (mix_0 hM)
    rw [(show L_X8_both_3 20000 is (nI 6) (nI s) (nI o) 0 = some is' from e)]
    exact ⟨is', rfl, MAll_congr h' (fun g j hg hj => by unfold mixT; rw [if_pos (by omega)])⟩
  · simp only [mq7_0, mq7_1, mq7_2, mq7_3, mq7_4, mq7_5, mq7_6, mq7_7, if_true, if_false]
    rw [nI_one]
    exact ⟨is, rfl, hM⟩
end Play
