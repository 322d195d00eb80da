section Grow
variable {s : Nat} {p : Nat → Bool}
/-- the row of priorities is that of seed s -/
def Priced (s : Nat) (prio : Nat → Int32) : Prop := ∀ k, k < 50 → prio k = nI (prN s k)
def PB (prio : Nat → Int32) (by_ : Int32) : Prop := ∀ t : Nat, t < 10000 → by_ = nI t → Priced t prio
theorem price_loop (hs : s < 10000) : ∀ (n k : Nat) (prio : Nat → Int32), k ≤ 50 → 51 ≤ k + n → (∀ j, j < k → prio j = nI (prN s j)) → ∃ prio', L_X4_price_11 n prio (nI s) (nI k) = some prio' ∧ Priced s prio' := by
  intro n
  induction n with
  | zero => intro k prio h1 h2; omega
  | succ n ih =>
    intro k prio h1 h2 h
    rw [L_X4_price_11]
    by_cases c : k = 50
    · subst c
      exact ⟨prio, by rw [if_pos (by decide)], h⟩
    · rw [lit32 50, if_neg (nI_ge (by omega) (by omega)), prio_eq hs (by omega), Option.bind_some, aset_nI (by omega) (by decide), Option.bind_some, nI_one]
      refine ih (k + 1) _ (by omega) (by omega) (fun j hj => ?_)
      by_cases z : j = k
      · rw [z, upd_s]
      · rw [upd_n _ _ z]; exact h j (by omega)
theorem price_eq {prio : Nat → Int32} {by_ : Int32} (hs : s < 10000) (h : PB prio by_) : ∃ prio', f_X4_price prio by_ (nI s) = some (prio', nI s) ∧ Priced s prio' := by
  unfold f_X4_price
  by_cases c : nI s = by_
  · rw [if_pos c]
    exact ⟨prio, by rw [c], h s hs c.symm⟩
  · rw [if_neg c]
    obtain ⟨prio', e, q⟩ := price_loop (s := s) hs 20000 0 prio (by omega) (by omega) (fun j hj => absurd hj (by omega))
    exact ⟨prio', by rw [lit32 0, e]; rfl, q⟩
theorem Priced.PB {prio : Nat → Int32} (hs : s < 10000) (h : Priced s prio) : PB prio (nI s) := fun t ht e => by
  rw [nI_eq' (by omega) (by omega)] at e
  rw [← e]; exact h
/-- where the part of stack place i begins -/
def Bs (O : Nat → Nat) : Nat → Nat
  | 0 => 0
  | i + 1 => O i + 1
/-- the keys on the way from the root down to the right, of the keys ahead of k: m of them -/
def Stk (s : Nat) (p : Nat → Bool) (left right parent : Nat → Int32) (span : Nat → Int64) (dig hei opn : Nat → Int32) (O : Nat → Nat) (k m : Nat) : Prop :=
  ∀ i, i < m → opn i = nI (O i) ∧ IsR s p (Bs O i) k (O i) ∧ RV s p (Bs O i) (O i) (left (O i)) ∧ Done s p left right parent span dig hei (Bs O i) (O i) ∧ RV s p (Bs O (i + 1)) k (right (O i))
theorem Stk.lt {left right parent : Nat → Int32} {span : Nat → Int64} {dig hei opn : Nat → Int32} {O : Nat → Nat} {k m : Nat} (h : Stk s p left right parent span dig hei opn O k m) : ∀ i, i < m → O i < k ∧ i ≤ O i := by
  intro i
  induction i with
  | zero => intro hi; exact ⟨(h 0 hi).2.1.2.1, Nat.zero_le _⟩
  | succ i ih =>
    intro hi
    have h1 := (h (i + 1) hi).2.1.1
    have h2 := (ih (by omega)).2
    exact ⟨(h (i + 1) hi).2.1.2.1, by have : Bs O (i + 1) = O i + 1 := rfl; omega⟩
theorem Stk.m {left right parent : Nat → Int32} {span : Nat → Int64} {dig hei opn : Nat → Int32} {O : Nat → Nat} {k m : Nat} (h : Stk s p left right parent span dig hei opn O k m) : m ≤ k := by
  cases m with
  | zero => exact Nat.zero_le _
  | succ m => have := h.lt m (Nat.lt_succ_self m); omega
theorem Bs_le {left right parent : Nat → Int32} {span : Nat → Int64} {dig hei opn : Nat → Int32} {O : Nat → Nat} {k m : Nat} (h : Stk s p left right parent span dig hei opn O k m) : ∀ i, i ≤ m → Bs O i ≤ k := by
  intro i hi
  cases i with
  | zero => exact Nat.zero_le _
  | succ i => have := (h.lt i (by omega)).1; show O i + 1 ≤ k; omega
/-- parts of lower stack places end ahead of where the part of a higher one begins -/
theorem Bs_mono {left right parent : Nat → Int32} {span : Nat → Int64} {dig hei opn : Nat → Int32} {O : Nat → Nat} {k m : Nat} (h : Stk s p left right parent span dig hei opn O k m) : ∀ j i, i < j → j ≤ m → O i + 1 ≤ Bs O j := by
  intro j
  induction j with
  | zero => intro i h1; omega
  | succ j ih =>
    intro i h1 h2
    show O i + 1 ≤ O j + 1
    by_cases z : i = j
    · rw [z]; omega
    · have h3 := ih i (by omega) (by omega)
      have h4 := (h j (by omega)).2.1.1
      omega
/-- one that ranks below is taken off the stack, and done -/
theorem pop_loop {right prio opn : Nat → Int32} {O : Nat → Nat} {k : Nat} (hk : k < 50) (hpk : p k = true) (hpr : Priced s prio) : ∀ (n m : Nat) (left parent : Nat → Int32) (span : Nat → Int64) (dig hei : Nat → Int32), m + 1 ≤ n → Stk s p left right parent span dig hei opn O k m → Done s p left right parent span dig hei (Bs O m) k → RV s p (Bs O m) k (left k) → (∀ j, Bs O m ≤ j → j < k → p j = true → rk s k j) → (∀ j, j < k → p j = false → span j = 0) →
    ∃ (m' : Nat) (left' parent' : Nat → Int32) (span' : Nat → Int64) (dig' hei' : Nat → Int32), L_X4_grow_56 n left right parent span dig hei prio opn (nI m) (nI k) = some (nI m', left', parent', span', dig', hei') ∧ m' ≤ m ∧ Stk s p left' right parent' span' dig' hei' opn O k m' ∧ Done s p left' right parent' span' dig' hei' (Bs O m') k ∧ RV s p (Bs O m') k (left' k) ∧ (∀ j, Bs O m' ≤ j → j < k → p j = true → rk s k j) ∧ (∀ j, j < k → p j = false → span' j = 0) ∧ (0 < m' → rk s (O (m' - 1)) k) ∧ span' k = span k := by
  intro n
  induction n with
  | zero => intro m left parent span dig hei h; omega
  | succ n ih =>
    intro m left parent span dig hei hmn hS hD hV hrk hz
    rw [L_X4_grow_56]
    have hmk := hS.m
    cases m with
    | zero =>
      refine ⟨0, left, parent, span, dig, hei, ?_, Nat.le_refl _, hS, hD, hV, hrk, hz, fun h => absurd h (by omega), rfl⟩
      rw [if_pos (by decide)]
    | succ m =>
      obtain ⟨eo, hR, hL, hDl, hRr⟩ := hS m (Nat.lt_succ_self m)
      have hOk := (hS.lt m (Nat.lt_succ_self m)).1
      have hO50 : O m < 50 := by omega
      rw [lit32 0, if_neg (nI_ge (by omega) (by omega)), nI_sone, aget_nI (by omega) (by decide), Option.bind_some, eo, aget_nI hO50 (by decide), Option.bind_some, aget_nI hk (by decide), Option.bind_some, hpr _ hO50, hpr _ hk]
      have p1 := prN_lt s (O m)
      have p2 := prN_lt s k
      by_cases c : prN s k ≤ prN s (O m)
      · refine ⟨m + 1, left, parent, span, dig, hei, ?_, Nat.le_refl _, hS, hD, hV, hrk, hz, fun _ => ?_, rfl⟩
        · rw [if_pos ((nI_leI (by omega) (by omega)).mpr c)]
        · show rk s (O m) k
          unfold rk; omega
      · have hkO : rk s k (O m) := by unfold rk; omega
        rw [if_neg (fun h => c ((nI_leI (by omega) (by omega)).mp h)), nI_mone, aget_nI (by omega) (by decide), Option.bind_some, eo, aset_nI hk (by decide), Option.bind_some, aget_nI hk (by decide), Option.bind_some, upd_s]
        have hne : ∀ j, j < k → upd left k (nI (O m)) j = left j := fun j hj => upd_n _ _ (by omega)
        have hD' : Done s p (upd left k (nI (O m))) right parent span dig hei (O m + 1) k := hD.same (fun j h1 h2 => ⟨hne j h2, rfl, rfl, rfl, rfl, rfl⟩)
        have hDl' : Done s p (upd left k (nI (O m))) right parent span dig hei (Bs O m) (O m) := hDl.same (fun j h1 h2 => ⟨hne j (by omega), rfl, rfl, rfl, rfl, rfl⟩)
        obtain ⟨parent', span', dig', hei', ef, hDn, hout, hsp⟩ := finish_eq (by omega) hR (by rw [hne _ hOk]; exact hL) hRr hDl' hD'
        rw [ef, Option.bind_some]
        have hOut : ∀ i, i < m → ∀ j, Bs O i ≤ j → j < O i → parent' j = parent j ∧ span' j = span j ∧ dig' j = dig j ∧ hei' j = hei j := fun i hi j h1 h2 => hout j (Or.inl (by have := Bs_mono hS m i hi (by omega); omega))
        have hS' : Stk s p (upd left k (nI (O m))) right parent' span' dig' hei' opn O k m := by
          intro i hi
          obtain ⟨q1, q2, q3, q4, q5⟩ := hS i (by omega)
          have hO := (hS.lt i (by omega)).1
          refine ⟨q1, q2, by rw [hne _ hO]; exact q3, q4.same (fun j h1 h2 => ?_), q5⟩
          obtain ⟨w1, w2, w3, w4⟩ := hOut i hi j h1 h2
          exact ⟨hne j (by omega), rfl, w1, w2, w3, w4⟩
        obtain ⟨m', left', parent'', span'', dig'', hei'', e, g1, g2, g3, g4, g5, g6, g7, g8⟩ := ih m (upd left k (nI (O m))) parent' span' dig' hei' (by omega) hS' hDn (Or.inr ⟨O m, hR, upd_s _ _ _⟩) (fun j h1 h2 h3 => by
          by_cases z : j = O m
          · rw [z]; exact hkO
          · exact rk_tr hkO (hR.2.2.2 j h1 h2 h3 z)) (fun j h1 h2 => by rw [hsp j h2]; exact hz j h1 h2)
        exact ⟨m', left', parent'', span'', dig'', hei'', e, by omega, g2, g3, g4, g5, g6, g7, by rw [g8]; exact (hout k (Or.inr (Nat.le_refl _))).2.1⟩
end Grow
