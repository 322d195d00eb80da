section Work
def Sp (s : Nat) (p : Nat → Bool) (j : Nat) (x : Int64) : Prop := (p j = true ∧ ∃ a b, La s p 0 j a ∧ Rb s p 50 j b ∧ Bits x (rs p a b)) ∨ (p j = false ∧ x = 0)
theorem Sp_un {s : Nat} {p : Nat → Bool} {j : Nat} {x y : Int64} (h1 : Sp s p j x) (h2 : Sp s p j y) : x = y := by
  rcases h1 with ⟨a0, a, b, a1, a2, a3⟩ | ⟨a0, a1⟩
  · rcases h2 with ⟨b0, c, d, b1, b2, b3⟩ | ⟨b0, b1⟩
    · rw [La_un b1 a1, Rb_un b2 a2] at b3; exact Bits_un a3 b3
    · rw [b0] at a0; exact absurd a0 (by decide)
  · rcases h2 with ⟨b0, _⟩ | ⟨b0, b1⟩
    · rw [a0] at b0; exact absurd b0 (by decide)
    · rw [a1, b1]
theorem Sp_congr {s : Nat} {p q : Nat → Bool} {j : Nat} {x : Int64} (hj : j < 50) (e : ∀ i, i < 50 → q i = p i) (h : Sp s p j x) : Sp s q j x := by
  rcases h with ⟨a0, a, b, ⟨l1, l2, l3, l4⟩, ⟨r1, r2, r3, r4⟩, a3⟩ | ⟨a0, a1⟩
  · refine Or.inl ⟨by rw [e j hj]; exact a0, a, b, ⟨l1, l2, fun i h1 h2 h3 => l3 i h1 h2 (by rw [← e i (by omega)]; exact h3), ?_⟩, ⟨r1, r2, fun i h1 h2 h3 => r3 i h1 h2 (by rw [← e i (by omega)]; exact h3), ?_⟩, fun k hk => ?_⟩
    · rcases l4 with z | ⟨z1, z2, z3⟩
      · exact Or.inl z
      · exact Or.inr ⟨z1, by rw [e _ (by omega)]; exact z2, z3⟩
    · rcases r4 with z | ⟨z1, z2, z3⟩
      · exact Or.inl z
      · exact Or.inr ⟨z1, by rw [e _ (by omega)]; exact z2, z3⟩
    · rw [a3 k hk]; unfold rs
      by_cases c : k < b
      · rw [e k (by omega)]
      · rw [decide_eq_false c, Bool.and_false, Bool.false_and, Bool.false_and]
  · exact Or.inr ⟨by rw [e j hj]; exact a0, a1⟩
theorem Sp_tree {s : Nat} {p : Nat → Bool} {left right parent : Nat → Int32} {span : Nat → Int64} {root : Int32} {dig hei : Nat → Int32} (h : TreeOK s p left right parent span root dig hei) {j : Nat} (hj : j < 50) : Sp s p j (span j) := by
  cases hp : p j
  · exact Or.inr ⟨hp, h.2.2.1 j hj hp⟩
  · obtain ⟨a, b, sg, f, _⟩ := h.2.1 j (by omega) hj hp
    exact Or.inl ⟨hp, a, b, sg.2.1, sg.2.2, f.2.2.1⟩
variable {S S' : Nat → Nat → Bool} {is is' : Nat → Int32} {s s' : Nat}
def TrOK (s : Nat) (S : Nat → Nat → Bool) (n : Nat) (trees : Nat → Int64) : Prop := ∀ i, i < n → Sp s (S (i / 50)) (i % 50) (trees i)
theorem is_at (hM : MAll is S) {i : Nat} (hi : i < 200) : is i = b01 (S (i / 50) (i % 50)) := by
  have := hM (i / 50) (by omega) (i % 50) (by omega)
  rw [show 50 * (i / 50) + i % 50 = i by omega] at this
  exact this
theorem find_loop (hM : MAll is S) (hs : s < 10000) : ∀ n i (trees : Nat → Int64), i ≤ 200 → 201 ≤ i + n → TrOK s S i trees → ∃ trees', L_X8_findTrees_2 n (nI s) is trees (nI i) = some trees' ∧ TrOK s S 200 trees' := by
  intro n
  induction n with
  | zero => intro i trees h1 h2; omega
  | succ n ih =>
    intro i trees h1 h2 h
    rw [L_X8_findTrees_2]
    by_cases c : i = 200
    · subst c; rw [if_pos (by decide)]; exact ⟨trees, rfl, h⟩
    · rw [lit32 200, if_neg (nI_ge (by omega) (by omega)), aget_nI (by omega) (by decide), Option.bind_some, is_at hM (by omega), nI_one]
      have stp : ∀ x, Sp s (S (i / 50)) (i % 50) x → TrOK s S (i + 1) (vp_updL trees i x) := fun x hx i' hi' => by
        by_cases z : i' = i
        · subst z; rw [updL_s]; exact hx
        · rw [updL_n _ _ z]; exact h i' (by omega)
      cases hp : S (i / 50) (i % 50)
      · rw [b01f, if_neg (by decide), asetL_nI (by omega) (by decide), Option.bind_some]
        exact ih (i + 1) _ (by omega) (by omega) (stp _ (Or.inr ⟨hp, rfl⟩))
      · obtain ⟨x, a, b, e, ha, hb, hx⟩ := treeOf_eq (s := s) (hM (i / 50) (by omega)) (by omega) hs (j := i % 50) (by omega)
        rw [b01t, if_pos rfl, lit32 50, rem32 (by omega) (by decide) (by decide), pk_div (by omega) (by decide) (by decide), e, Option.bind_some, asetL_nI (by omega) (by decide), Option.bind_some]
        exact ih (i + 1) _ (by omega) (by omega) (stp _ (Or.inl ⟨hp, a, b, ha, hb, hx⟩))
theorem find_eq (hM : MAll is S) (hs : s < 10000) (trees : Nat → Int64) : ∃ trees', f_X8_findTrees (nI s) is trees = some trees' ∧ TrOK s S 200 trees' := by
  obtain ⟨t, e, h⟩ := find_loop hM hs 20000 0 trees (by omega) (by omega) (fun i hi => absurd hi (by omega))
  unfold f_X8_findTrees
  rw [(show L_X8_findTrees_2 20000 (nI s) is trees 0 = some t from e)]
  exact ⟨t, rfl, h⟩
def Wk (S' : Nat → Nat → Bool) (tb ta : Nat → Int64) : Nat → Bool := fun i => S' (i / 50) (i % 50) && !decide (ta i = tb i)
theorem work_loop (hM : MAll is' S') (hs : s' < 10000) {tb ta : Nat → Int64} (hT : TrOK s' S' 200 ta) : ∀ n i c, i ≤ 200 → 201 ≤ i + n → c = cnt (Wk S' tb ta) i → L_X8_workNow_4 n (nI s') is' tb (nI c) (nI i) = some (nI (cnt (Wk S' tb ta) 200)) := by
  intro n
  induction n with
  | zero => intro i c h1 h2; omega
  | succ n ih =>
    intro i c h1 h2 h3
    rw [L_X8_workNow_4]
    by_cases z : i = 200
    · subst z; rw [if_pos (by decide), h3]
    · rw [lit32 200, if_neg (nI_ge (by omega) (by omega)), aget_nI (by omega) (by decide), Option.bind_some, is_at hM (by omega), nI_one, nI_one, (show nI c + (0 : Int32) = nI (c + 0) from nI_add c 0)]
      have e : ∀ b, Wk S' tb ta i = b → cnt (Wk S' tb ta) (i + 1) = c + (if b then 1 else 0) := fun b hb => by
        show cnt (Wk S' tb ta) i + (if Wk S' tb ta i then 1 else 0) = _
        rw [hb, h3]
      cases hp : S' (i / 50) (i % 50)
      · rw [b01f, if_neg (by decide)]
        exact ih (i + 1) (c + 0) (by omega) (by omega) (e false (by unfold Wk; rw [hp]; rfl)).symm
      · obtain ⟨x, a, b, e1, ha, hb, hx⟩ := treeOf_eq (s := s') (hM (i / 50) (by omega)) (by omega) hs (j := i % 50) (by omega)
        have ex : x = ta i := Sp_un (Or.inl ⟨hp, a, b, ha, hb, hx⟩) (hT i (by omega))
        rw [b01t, if_pos rfl, lit32 50, rem32 (by omega) (by decide) (by decide), pk_div (by omega) (by decide) (by decide), e1, Option.bind_some, aget_nI (by omega) (by decide), Option.bind_some, ex]
        by_cases w : ta i = tb i
        · rw [if_pos ((lg_eq _ _).mpr w)]
          exact ih (i + 1) (c + 0) (by omega) (by omega) (e false (by unfold Wk; rw [decide_eq_true w, Bool.not_true, Bool.and_false])).symm
        · rw [if_neg (fun q => w ((lg_eq _ _).mp q))]
          exact ih (i + 1) (c + 1) (by omega) (by omega) (e true (by unfold Wk; rw [hp, decide_eq_false w]; rfl)).symm
theorem work_eq (hM : MAll is' S') (hs : s' < 10000) {tb ta : Nat → Int64} (hT : TrOK s' S' 200 ta) : f_X8_workNow (nI s') is' tb = some (nI (cnt (Wk S' tb ta) 200)) := by
  unfold f_X8_workNow
  rw [(show L_X8_workNow_4 20000 (nI s') is' tb 0 0 = _ from work_loop hM hs hT 20000 0 0 (by omega) (by omega) rfl)]; rfl
theorem w97_loop (w0 : Nat) {keys' : Nat → Int64} (h : SetR S' keys' is') {g : Nat} (hg : g < 4) {tb ta tbs tas : Nat → Int64} (e1 : ∀ j, j < 50 → tbs j = tb (50 * g + j)) (e2 : ∀ j, j < 50 → tas j = ta (50 * g + j)) : ∀ n j w, j ≤ 50 → 51 ≤ j + n → w = cnt (Wk S' tb ta) (50 * g + j) → L_X5_addWork_97 n tbs tas keys' (nI (w0 + w)) (nI g) (nI j) = some (nI (w0 + cnt (Wk S' tb ta) (50 * g + 50))) := by
  intro n
  induction n with
  | zero => intro j w h1 h2; omega
  | succ n ih =>
    intro j w h1 h2 h3
    rw [L_X5_addWork_97]
    by_cases z : j = 50
    · subst z; rw [if_pos (by decide), h3]
    · have ej : ∀ b, Wk S' tb ta (50 * g + j) = b → cnt (Wk S' tb ta) (50 * g + (j + 1)) = w + (if b then 1 else 0) := fun b hb => by
        show cnt (Wk S' tb ta) (50 * g + j) + (if Wk S' tb ta (50 * g + j) then 1 else 0) = _
        rw [hb, h3]
      have eW : Wk S' tb ta (50 * g + j) = (S' g j && !decide (ta (50 * g + j) = tb (50 * g + j))) := by
        unfold Wk; rw [show (50 * g + j) / 50 = g by omega, show (50 * g + j) % 50 = j by omega]
      rw [lit32 50, if_neg (nI_ge (by omega) (by omega)), aget_nI hg (by decide), Option.bind_some, isIn_eq _ (by omega), Option.bind_some, bx_key h hg (by omega), nI_one, nI_one]
      cases hp : S' g j
      · rw [b01f, if_pos rfl]
        exact ih (j + 1) w (by omega) (by omega) (ej false (by rw [eW, hp]; rfl)).symm
      · rw [b01t, if_neg (by decide), aget_nI (by omega) (by decide), Option.bind_some, aget_nI (by omega) (by decide), Option.bind_some, e1 j (by omega), e2 j (by omega)]
        by_cases q : ta (50 * g + j) = tb (50 * g + j)
        · rw [if_pos ((lg_eq _ _).mpr q.symm)]
          exact ih (j + 1) w (by omega) (by omega) (ej false (by rw [eW, decide_eq_true q, Bool.not_true, Bool.and_false])).symm
        · rw [if_neg (fun r => q ((lg_eq _ _).mp r).symm)]
          exact ih (j + 1) (w + 1) (by omega) (by omega) (ej true (by rw [eW, hp, decide_eq_false q]; rfl)).symm
end Work
