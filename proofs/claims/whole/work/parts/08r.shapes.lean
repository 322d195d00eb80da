/-! shapes, deep: told by tables -/
def catT : List Int64 := [1, 1, 2, 5, 14, 42, 132, 429, 1430, 4862, 16796, 58786, 208012, 742900, 2674440, 9694845, 35357670, 129644790, 477638700, 1767263190, 6564120420, 24466267020, 91482563640, 343059613650, 1289904147324, 4861946401452, 18367353072152, 69533550916004, 263747951750360, 1002242216651368, 3814986502092304]
def cat (k : Nat) : Int64 := catT.getD k 0
/-- the sum's first e parts -/
def catS (k : Nat) : Nat → Int64
  | 0 => 0
  | e + 1 => catS k e + cat e * cat (k - 1 - e)
theorem catS_k : ∀ k, k < 31 → 1 ≤ k → catS k k = cat k := by decide +kernel
set_option maxRecDepth 100000 in
theorem shapes7_in : ∀ n, n < 31 → f_X7_shapes (nI n) = some (cat n) := by decide +kernel
theorem shape_in {k : Nat} (hk : k < 31) (h1 : 1 ≤ k) : ∀ n e (f : Nat → Int64), e ≤ k → k + 1 ≤ e + n → (∀ j, j < k → f j = cat j) → f k = catS k e → ∃ f', L_X8_shapes_39 n f (nI k) (nI e) = some f' ∧ (∀ j, j < k → f' j = cat j) ∧ f' k = cat k := by
  intro n
  induction n with
  | zero => intro e f a1 a2; omega
  | succ n ih =>
    intro e f a1 a2 a3 a4
    rw [L_X8_shapes_39]
    by_cases c : e = k
    · subst c
      rw [if_pos ((nI_leI (by omega) (by omega)).mpr (Nat.le_refl _))]
      exact ⟨f, rfl, a3, by rw [a4, catS_k e hk h1]⟩
    · have e1 : nI k - (1 : Int32) - nI e = nI (k - 1 - e) := by
        rw [lit32 1, pk_sub (by omega), pk_sub (by omega)]
      rw [if_neg (nI_ge (by omega) (by omega)), aget_nI hk (by decide), Option.bind_some, aget_nI (by omega) (by decide), Option.bind_some, e1, aget_nI (by omega) (by decide), Option.bind_some, asetL_nI hk (by decide), Option.bind_some, nI_one, a3 e (by omega), a3 (k - 1 - e) (by omega), a4]
      refine ih (e + 1) _ (by omega) (by omega) (fun j hj => ?_) (updL_s _ _ _)
      rw [updL_n _ _ (by omega)]; exact a3 j hj
theorem shape_out {N : Nat} (hN : N < 31) : ∀ n k (f : Nat → Int64), 1 ≤ k → k ≤ N + 1 → N + 2 ≤ k + n → (∀ j, j < k → f j = cat j) → ∃ f', L_X8_shapes_25 n f (nI N) (nI k) = some f' ∧ ∀ j, j ≤ N → f' j = cat j := by
  intro n
  induction n with
  | zero => intro k f a0 a1 a2; omega
  | succ n ih =>
    intro k f a0 a1 a2 a3
    rw [L_X8_shapes_25]
    by_cases c : N < k
    · rw [if_pos ((nI_ltI (by omega) (by omega)).mpr c)]
      exact ⟨f, rfl, fun j hj => a3 j (by omega)⟩
    · rw [if_neg (fun q => c ((nI_ltI (by omega) (by omega)).mp q)), asetL_nI (by omega) (by decide), Option.bind_some]
      obtain ⟨f', e, b1, b2⟩ := shape_in (k := k) (by omega) a0 20000 0 (vp_updL f k 0) (by omega) (by omega) (fun j hj => by rw [updL_n _ _ (by omega)]; exact a3 j hj) (updL_s _ _ _)
      have e' : L_X8_shapes_39 20000 (vp_updL f k 0) (nI k) (0 : Int32) = some f' := e
      rw [e', Option.bind_some, nI_one]
      refine ih (k + 1) f' (by omega) (by omega) (by omega) (fun j hj => ?_)
      by_cases z : j = k
      · rw [z]; exact b2
      · exact b1 j (by omega)
theorem shapes_eq (shape : Nat → Int64) (v : Int32) : ∃ r shape', f_X7_shapes v = some r ∧ f_X8_shapes shape v = some (r, shape') := by
  rcases ixc v 31 (by decide) with ⟨n, hn, rfl⟩ | hv
  · rw [shapes7_in n hn]
    unfold f_X8_shapes
    have a0 : asetL 31 shape (0 : Int32) (1 : Int64) = some (vp_updL shape 0 1) := asetL_nI (j := 0) (by decide) (by decide)
    obtain ⟨f', e, b⟩ := shape_out hn 20000 1 (vp_updL shape 0 1) (by omega) (by omega) (by omega) (fun j hj => by rw [show j = 0 by omega, updL_s]; rfl)
    have e' : L_X8_shapes_25 20000 (vp_updL shape 0 1) (nI n) (1 : Int32) = some f' := e
    rw [in32 (nI n) 0 30 (a := 0) (b := 30) rfl rfl, nI_toInt (by omega), if_pos (show (0 : Int) ≤ (n : Int) ∧ (n : Int) ≤ 30 by omega)]
    simp only [Option.bind_some, n10e, if_false, a0, e', aget_nI hn (show 31 < 2 ^ 31 by decide), b n (Nat.le_refl _)]
    exact ⟨_, _, rfl, rfl⟩
  · unfold f_X7_shapes f_X8_shapes
    rw [in32 v 0 30 (a := 0) (b := 30) rfl rfl, if_neg (show ¬ ((0 : Int) ≤ v.toInt ∧ v.toInt ≤ 30) by omega)]
    simp only [Option.bind_some, if_true, l32, le32]
    rw [show (0 : Int32).toInt = 0 from rfl, show (30 : Int32).toInt = 30 from rfl]
    by_cases c : v.toInt < 0
    · rw [if_pos c]; exact ⟨_, _, rfl, rfl⟩
    · rw [if_neg c, if_neg (show ¬ v.toInt ≤ 30 by omega)]; exact ⟨_, _, rfl, rfl⟩
set_option maxRecDepth 100000 in
theorem deep_all : ∀ n, n < 21 → 1 ≤ n → ∀ i, i < n → ∀ q, q < 2 → f_X7_deep (nI n) (nI i) (nI q) = f_X8_deep (nI n) (nI i) (nI q) ∧ (f_X7_deep (nI n) (nI i) (nI q)).isSome = true := by decide +kernel
theorem deep_eq (v1 v2 v3 : Int32) : ∃ r, f_X7_deep v1 v2 v3 = some r ∧ f_X8_deep v1 v2 v3 = some r := by
  by_cases hin : (1 ≤ v1.toInt ∧ v1.toInt ≤ 20) ∧ (0 ≤ v2.toInt ∧ v2.toInt < v1.toInt) ∧ (0 ≤ v3.toInt ∧ v3.toInt ≤ 1)
  · obtain ⟨⟨a1, a2⟩, ⟨b1, b2⟩, c1, c2⟩ := hin
    rcases ixc v1 21 (by decide) with ⟨n, hn, rfl⟩ | q
    · rw [nI_toInt (by omega)] at a1 a2 b2
      rcases ixc v2 n (by omega) with ⟨i, hi, rfl⟩ | q
      · rcases ixc v3 2 (by decide) with ⟨w, hw, rfl⟩ | q
        · obtain ⟨e1, e2⟩ := deep_all n hn (by omega) i hi w hw
          obtain ⟨r, hr⟩ := Option.isSome_iff_exists.mp e2
          exact ⟨r, hr, by rw [← e1]; exact hr⟩
        · omega
      · omega
    · omega
  · have e1 : f_X7_deep v1 v2 v3 = some (-1000000000000000002 : Int64) := by
      unfold f_X7_deep
      simp only [l32, le32]
      rw [show (1 : Int32).toInt = 1 from rfl, show (20 : Int32).toInt = 20 from rfl, show (0 : Int32).toInt = 0 from rfl]
      by_cases c1 : v1.toInt < 1
      · rw [if_pos c1]
      · rw [if_neg c1]
        by_cases c2 : 20 < v1.toInt
        · rw [if_pos c2]
        · rw [if_neg c2]
          by_cases c3 : v2.toInt < 0
          · rw [if_pos c3]
          · rw [if_neg c3]
            by_cases c4 : v1.toInt ≤ v2.toInt
            · rw [if_pos c4]
            · rw [if_neg c4]
              by_cases c5 : v3.toInt < 0
              · rw [if_pos c5]
              · rw [if_neg c5, if_neg (show ¬ v3.toInt ≤ 1 by omega)]
    refine ⟨_, e1, ?_⟩
    unfold f_X8_deep
    rw [in32 v1 1 20 (a := 1) (b := 20) rfl rfl, in32 v3 0 1 (a := 0) (b := 1) rfl rfl, in_eq, to64, to64]
    by_cases c1 : 1 ≤ v1.toInt ∧ v1.toInt ≤ 20
    · have h1 : (v1 - (1 : Int32)).toInt = v1.toInt - 1 := by
        rcases ixc v1 21 (by decide) with ⟨n, hn, rfl⟩ | q
        · exact (im_toInt (a := n) (by omega)).trans (by rw [nI_toInt (by omega)])
        · omega
      rw [if_pos c1, h1, show (0 : Int64).toInt = 0 from rfl]
      simp only [Option.bind_some, n10e, if_false]
      by_cases c2 : 0 ≤ v2.toInt ∧ v2.toInt ≤ v1.toInt - 1
      · rw [if_pos c2, if_neg (show ¬ (0 ≤ v3.toInt ∧ v3.toInt ≤ 1) by omega)]
        simp only [n10e, if_false, if_true]
      · rw [if_neg c2]; simp only [if_true]
    · rw [if_neg c1]; simp only [Option.bind_some, if_true]
