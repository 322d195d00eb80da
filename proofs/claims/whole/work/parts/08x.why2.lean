section WhyTwo
theorem kq0_33 : (nI (kc 0) = (33 : Int32)) = False := eq_false (by decide)
theorem kq0_38 : (nI (kc 0) = (38 : Int32)) = False := eq_false (by decide)
theorem kq0_43 : (nI (kc 0) = (43 : Int32)) = True := eq_true (by decide)
theorem kq0_45 : (nI (kc 0) = (45 : Int32)) = False := eq_false (by decide)
theorem kq0_47 : (nI (kc 0) = (47 : Int32)) = False := eq_false (by decide)
theorem kq0_61 : (nI (kc 0) = (61 : Int32)) = False := eq_false (by decide)
theorem kq0_124 : (nI (kc 0) = (124 : Int32)) = False := eq_false (by decide)
theorem kq0_126 : (nI (kc 0) = (126 : Int32)) = False := eq_false (by decide)
theorem mq0_0 : (nI 0 = (0 : Int32)) = True := eq_true (by decide)
theorem mq0_1 : (nI 0 = (1 : Int32)) = False := eq_false (by decide)
theorem mq0_2 : (nI 0 = (2 : Int32)) = False := eq_false (by decide)
theorem mq0_3 : (nI 0 = (3 : Int32)) = False := eq_false (by decide)
theorem mq0_4 : (nI 0 = (4 : Int32)) = False := eq_false (by decide)
theorem mq0_5 : (nI 0 = (5 : Int32)) = False := eq_false (by decide)
theorem mq0_6 : (nI 0 = (6 : Int32)) = False := eq_false (by decide)
theorem mq0_7 : (nI 0 = (7 : Int32)) = False := eq_false (by decide)
theorem m2_0 : ((2 : Int32) ≤ nI 0) = False := eq_false (by decide)
theorem kq1_33 : (nI (kc 1) = (33 : Int32)) = False := eq_false (by decide)
theorem kq1_38 : (nI (kc 1) = (38 : Int32)) = False := eq_false (by decide)
theorem kq1_43 : (nI (kc 1) = (43 : Int32)) = False := eq_false (by decide)
theorem kq1_45 : (nI (kc 1) = (45 : Int32)) = True := eq_true (by decide)
theorem kq1_47 : (nI (kc 1) = (47 : Int32)) = False := eq_false (by decide)
theorem kq1_61 : (nI (kc 1) = (61 : Int32)) = False := eq_false (by decide)
theorem kq1_124 : (nI (kc 1) = (124 : Int32)) = False := eq_false (by decide)
theorem kq1_126 : (nI (kc 1) = (126 : Int32)) = False := eq_false (by decide)
theorem mq1_0 : (nI 1 = (0 : Int32)) = False := eq_false (by decide)
theorem mq1_1 : (nI 1 = (1 : Int32)) = True := eq_true (by decide)
theorem mq1_2 : (nI 1 = (2 : Int32)) = False := eq_false (by decide)
theorem mq1_3 : (nI 1 = (3 : Int32)) = False := eq_false (by decide)
theorem mq1_4 : (nI 1 = (4 : Int32)) = False := eq_false (by decide)
theorem mq1_5 : (nI 1 = (5 : Int32)) = False := eq_false (by decide)
theorem mq1_6 : (nI 1 = (6 : Int32)) = False := eq_false (by decide)
theorem mq1_7 : (nI 1 = (7 : Int32)) = False := eq_false (by decide)
theorem m2_1 : ((2 : Int32) ≤ nI 1) = False := eq_false (by decide)
theorem kq2_33 : (nI (kc 2) = (33 : Int32)) = False := eq_false (by decide)
theorem kq2_38 : (nI (kc 2) = (38 : Int32)) = False := eq_false (by decide)
theorem kq2_43 : (nI (kc 2) = (43 : Int32)) = False := eq_false (by decide)
theorem kq2_45 : (nI (kc 2) = (45 : Int32)) = False := eq_false (by decide)
theorem kq2_47 : (nI (kc 2) = (47 : Int32)) = True := eq_true (by decide)
theorem kq2_61 : (nI (kc 2) = (61 : Int32)) = False := eq_false (by decide)
theorem kq2_124 : (nI (kc 2) = (124 : Int32)) = False := eq_false (by decide)
theorem kq2_126 : (nI (kc 2) = (126 : Int32)) = False := eq_false (by decide)
theorem mq2_0 : (nI 2 = (0 : Int32)) = False := eq_false (by decide)
theorem mq2_1 : (nI 2 = (1 : Int32)) = False := eq_false (by decide)
theorem mq2_2 : (nI 2 = (2 : Int32)) = True := eq_true (by decide)
theorem mq2_3 : (nI 2 = (3 : Int32)) = False := eq_false (by decide)
theorem mq2_4 : (nI 2 = (4 : Int32)) = False := eq_false (by decide)
theorem mq2_5 : (nI 2 = (5 : Int32)) = False := eq_false (by decide)
theorem mq2_6 : (nI 2 = (6 : Int32)) = False := eq_false (by decide)
theorem mq2_7 : (nI 2 = (7 : Int32)) = False := eq_false (by decide)
theorem m2_2 : ((2 : Int32) ≤ nI 2) = True := eq_true (by decide)
theorem kq3_33 : (nI (kc 3) = (33 : Int32)) = False := eq_false (by decide)
theorem kq3_38 : (nI (kc 3) = (38 : Int32)) = True := eq_true (by decide)
theorem kq3_43 : (nI (kc 3) = (43 : Int32)) = False := eq_false (by decide)
theorem kq3_45 : (nI (kc 3) = (45 : Int32)) = False := eq_false (by decide)
theorem kq3_47 : (nI (kc 3) = (47 : Int32)) = False := eq_false (by decide)
theorem kq3_61 : (nI (kc 3) = (61 : Int32)) = False := eq_false (by decide)
theorem kq3_124 : (nI (kc 3) = (124 : Int32)) = False := eq_false (by decide)
theorem kq3_126 : (nI (kc 3) = (126 : Int32)) = False := eq_false (by decide)
theorem mq3_0 : (nI 3 = (0 : Int32)) = False := eq_false (by decide)
theorem mq3_1 : (nI 3 = (1 : Int32)) = False := eq_false (by decide)
theorem mq3_2 : (nI 3 = (2 : Int32)) = False := eq_false (by decide)
theorem mq3_3 : (nI 3 = (3 : Int32)) = True := eq_true (by decide)
theorem mq3_4 : (nI 3 = (4 : Int32)) = False := eq_false (by decide)
theorem mq3_5 : (nI 3 = (5 : Int32)) = False := eq_false (by decide)
theorem mq3_6 : (nI 3 = (6 : Int32)) = False := eq_false (by decide)
theorem mq3_7 : (nI 3 = (7 : Int32)) = False := eq_false (by decide)
theorem m2_3 : ((2 : Int32) ≤ nI 3) = True := eq_true (by decide)
theorem kq4_33 : (nI (kc 4) = (33 : Int32)) = False := eq_false (by decide)
theorem kq4_38 : (nI (kc 4) = (38 : Int32)) = False := eq_false (by decide)
theorem kq4_43 : (nI (kc 4) = (43 : Int32)) = False := eq_false (by decide)
theorem kq4_45 : (nI (kc 4) = (45 : Int32)) = False := eq_false (by decide)
theorem kq4_47 : (nI (kc 4) = (47 : Int32)) = False := eq_false (by decide)
theorem kq4_61 : (nI (kc 4) = (61 : Int32)) = True := eq_true (by decide)
theorem kq4_124 : (nI (kc 4) = (124 : Int32)) = False := eq_false (by decide)
theorem kq4_126 : (nI (kc 4) = (126 : Int32)) = False := eq_false (by decide)
theorem mq4_0 : (nI 4 = (0 : Int32)) = False := eq_false (by decide)
theorem mq4_1 : (nI 4 = (1 : Int32)) = False := eq_false (by decide)
theorem mq4_2 : (nI 4 = (2 : Int32)) = False := eq_false (by decide)
theorem mq4_3 : (nI 4 = (3 : Int32)) = False := eq_false (by decide)
theorem mq4_4 : (nI 4 = (4 : Int32)) = True := eq_true (by decide)
theorem mq4_5 : (nI 4 = (5 : Int32)) = False := eq_false (by decide)
theorem mq4_6 : (nI 4 = (6 : Int32)) = False := eq_false (by decide)
theorem mq4_7 : (nI 4 = (7 : Int32)) = False := eq_false (by decide)
theorem m2_4 : ((2 : Int32) ≤ nI 4) = True := eq_true (by decide)
theorem kq5_33 : (nI (kc 5) = (33 : Int32)) = False := eq_false (by decide)
theorem kq5_38 : (nI (kc 5) = (38 : Int32)) = False := eq_false (by decide)
theorem kq5_43 : (nI (kc 5) = (43 : Int32)) = False := eq_false (by decide)
theorem kq5_45 : (nI (kc 5) = (45 : Int32)) = False := eq_false (by decide)
theorem kq5_47 : (nI (kc 5) = (47 : Int32)) = False := eq_false (by decide)
theorem kq5_61 : (nI (kc 5) = (61 : Int32)) = False := eq_false (by decide)
theorem kq5_124 : (nI (kc 5) = (124 : Int32)) = True := eq_true (by decide)
theorem kq5_126 : (nI (kc 5) = (126 : Int32)) = False := eq_false (by decide)
theorem mq5_0 : (nI 5 = (0 : Int32)) = False := eq_false (by decide)
theorem mq5_1 : (nI 5 = (1 : Int32)) = False := eq_false (by decide)
theorem mq5_2 : (nI 5 = (2 : Int32)) = False := eq_false (by decide)
theorem mq5_3 : (nI 5 = (3 : Int32)) = False := eq_false (by decide)
theorem mq5_4 : (nI 5 = (4 : Int32)) = False := eq_false (by decide)
theorem mq5_5 : (nI 5 = (5 : Int32)) = True := eq_true (by decide)
theorem mq5_6 : (nI 5 = (6 : Int32)) = False := eq_false (by decide)
theorem mq5_7 : (nI 5 = (7 : Int32)) = False := eq_false (by decide)
theorem m2_5 : ((2 : Int32) ≤ nI 5) = True := eq_true (by decide)
theorem kq6_33 : (nI (kc 6) = (33 : Int32)) = False := eq_false (by decide)
theorem kq6_38 : (nI (kc 6) = (38 : Int32)) = False := eq_false (by decide)
theorem kq6_43 : (nI (kc 6) = (43 : Int32)) = False := eq_false (by decide)
theorem kq6_45 : (nI (kc 6) = (45 : Int32)) = False := eq_false (by decide)
theorem kq6_47 : (nI (kc 6) = (47 : Int32)) = False := eq_false (by decide)
theorem kq6_61 : (nI (kc 6) = (61 : Int32)) = False := eq_false (by decide)
theorem kq6_124 : (nI (kc 6) = (124 : Int32)) = False := eq_false (by decide)
theorem kq6_126 : (nI (kc 6) = (126 : Int32)) = True := eq_true (by decide)
theorem mq6_0 : (nI 6 = (0 : Int32)) = False := eq_false (by decide)
theorem mq6_1 : (nI 6 = (1 : Int32)) = False := eq_false (by decide)
theorem mq6_2 : (nI 6 = (2 : Int32)) = False := eq_false (by decide)
theorem mq6_3 : (nI 6 = (3 : Int32)) = False := eq_false (by decide)
theorem mq6_4 : (nI 6 = (4 : Int32)) = False := eq_false (by decide)
theorem mq6_5 : (nI 6 = (5 : Int32)) = False := eq_false (by decide)
theorem mq6_6 : (nI 6 = (6 : Int32)) = True := eq_true (by decide)
theorem mq6_7 : (nI 6 = (7 : Int32)) = False := eq_false (by decide)
theorem m2_6 : ((2 : Int32) ≤ nI 6) = True := eq_true (by decide)
theorem kq7_33 : (nI (kc 7) = (33 : Int32)) = True := eq_true (by decide)
theorem kq7_38 : (nI (kc 7) = (38 : Int32)) = False := eq_false (by decide)
theorem kq7_43 : (nI (kc 7) = (43 : Int32)) = False := eq_false (by decide)
theorem kq7_45 : (nI (kc 7) = (45 : Int32)) = False := eq_false (by decide)
theorem kq7_47 : (nI (kc 7) = (47 : Int32)) = False := eq_false (by decide)
theorem kq7_61 : (nI (kc 7) = (61 : Int32)) = False := eq_false (by decide)
theorem kq7_124 : (nI (kc 7) = (124 : Int32)) = False := eq_false (by decide)
theorem kq7_126 : (nI (kc 7) = (126 : Int32)) = False := eq_false (by decide)
theorem mq7_0 : (nI 7 = (0 : Int32)) = False := eq_false (by decide)
theorem mq7_1 : (nI 7 = (1 : Int32)) = False := eq_false (by decide)
theorem mq7_2 : (nI 7 = (2 : Int32)) = False := eq_false (by decide)
theorem mq7_3 : (nI 7 = (3 : Int32)) = False := eq_false (by decide)
theorem mq7_4 : (nI 7 = (4 : Int32)) = False := eq_false (by decide)
theorem mq7_5 : (nI 7 = (5 : Int32)) = False := eq_false (by decide)
theorem mq7_6 : (nI 7 = (6 : Int32)) = False := eq_false (by decide)
theorem mq7_7 : (nI 7 = (7 : Int32)) = True := eq_true (by decide)
theorem m2_7 : ((2 : Int32) ≤ nI 7) = True := eq_true (by decide)
theorem cnt_or (p q : Nat → Bool) : ∀ n, cnt (fun j => p j || q j) n ≤ cnt p n + cnt q n := by
  intro n
  induction n with
  | zero => exact Nat.le_refl _
  | succ n ih =>
    show cnt (fun j => p j || q j) n + (if (p n || q n) then 1 else 0) ≤ cnt p n + (if p n then 1 else 0) + (cnt q n + (if q n then 1 else 0))
    cases p n <;> cases q n <;> simp <;> omega
theorem ofBoth_loop {is : Nat → Int32} {g o : Nat} {p q : Nat → Bool} (hp : MR is g p) (hq : MR is o q) (hg : g < 4) (ho : o < 4) : ∀ n k c, k ≤ 50 → 51 ≤ k + n → c = cnt (fun j => p j || q j) k → L_X8_ofBoth_5 n is (nI g) (nI o) (nI c) (nI k) = some (nI (cnt (fun j => p j || q j) 50)) := by
  intro n
  induction n with
  | zero => intro k c h1 h2; omega
  | succ n ih =>
    intro k c h1 h2 h3
    rw [L_X8_ofBoth_5]
    by_cases z : k = 50
    · subst z; rw [if_pos (by decide), h3]
    · rw [lit32 50, if_neg (nI_ge (by omega) (by omega)), has_eq hp hg (by omega), Option.bind_some, has_eq hq ho (by omega), Option.bind_some, nI_one, nI_one, (show nI c + (0 : Int32) = nI (c + 0) from nI_add c 0)]
      have e : ∀ x, cnt (fun j => p j || q j) k + (if (p k || q k) then 1 else 0) = x → cnt (fun j => p j || q j) (k + 1) = x := fun x h => h
      cases hpk : p k
      · rw [b01f, if_pos rfl]
        cases hqk : q k
        · rw [b01f, if_pos rfl]
          exact ih (k + 1) (c + 0) (by omega) (by omega) (by rw [e (c + 0) (by rw [hpk, hqk, h3]; rfl)])
        · rw [b01t, if_neg (by decide)]
          exact ih (k + 1) (c + 1) (by omega) (by omega) (by rw [e (c + 1) (by rw [hpk, hqk, h3]; rfl)])
      · rw [b01t, if_neg (by decide)]
        exact ih (k + 1) (c + 1) (by omega) (by omega) (by rw [e (c + 1) (by rw [hpk, h3]; rfl)])
theorem ofBoth_eq {is : Nat → Int32} {g o : Nat} {p q : Nat → Bool} (hp : MR is g p) (hq : MR is o q) (hg : g < 4) (ho : o < 4) : f_X8_ofBoth is (nI g) (nI o) = some (nI (cnt (fun j => p j || q j) 50)) := by
  unfold f_X8_ofBoth
  rw [(show L_X8_ofBoth_5 20000 is (nI g) (nI o) 0 0 = _ from ofBoth_loop hp hq hg ho 20000 0 0 (by omega) (by omega) rfl), Option.bind_some]
theorem pcx_or {S : Nat → Nat → Bool} {keys : Nat → Int64} {is : Nat → Int32} (h : SetR S keys is) {s o : Nat} (hs : s < 4) (ho : o < 4) : pcx (keys s ||| keys o) = cnt (fun j => S s j || S o j) 50 := by
  refine cnt_cut 64 (by omega) (fun k h1 h2 => ?_) (fun k hk => ?_)
  · rw [bx_or, q50_hi (h s hs).1 k h1 h2, q50_hi (h o ho).1 k h1 h2]; rfl
  · rw [bx_or, bx_key h hs hk, bx_key h ho hk]
section Wn
variable {S : Nat → Nat → Bool} {keys : Nat → Int64} {is : Nat → Int32} {sd s k o : Nat}
def Allowed (S : Nat → Nat → Bool) (sd m s k o : Nat) : Prop := (m = 7 → sd < 9999) ∧ (m = 0 → cnt (S s) 50 < 40 ∧ S s k = false) ∧ (m = 1 → S s k = true) ∧ (2 ≤ m → m < 7 → s ≠ o) ∧ (m = 2 → ∀ j, j < 50 → S o j = false) ∧ (m = 3 ∨ m = 5 → cnt (fun j => S s j || S o j) 50 ≤ 40)
def WN (S : Nat → Nat → Bool) (keys : Nat → Int64) (is : Nat → Int32) (sd m s k o : Nat) : Prop :=
  ∃ w, w ≤ 6 ∧ f_X6_whyNot keys (nI sd) (nI (kc m)) (nI s) (nI k) (nI o) = some (nI w) ∧ f_X8_whyNot (nI sd) is (nI m) (nI s) (nI k) (nI o) = some (nI w) ∧ (w = 0 → Allowed S sd m s k o)
theorem why7 (hsd : sd < 10000) : WN S keys is sd 7 s k o := by
  unfold WN f_X6_whyNot f_X8_whyNot
  simp only [kq7_33, mq7_7, if_true]
  rw [lit32 9999]
  simp only [nI_lt' (show sd < 2 ^ 31 by omega) (show 9999 < 2 ^ 31 by decide), nI_eq' (show sd < 2 ^ 31 by omega) (show 9999 < 2 ^ 31 by decide)]
  by_cases c : sd = 9999
  · rw [if_neg (by omega), if_pos c]
    exact ⟨6, by omega, rfl, rfl, fun q => by omega⟩
  · rw [if_pos (by omega), if_neg c]
    exact ⟨0, by omega, rfl, rfl, fun _ => ⟨fun _ => by omega, fun q => by omega, fun q => by omega, fun q r => by omega, fun q => by omega, fun q => by omega⟩⟩
theorem why0 (h : SetR S keys is) (hs : s < 4) (hk : k < 50) : WN S keys is sd 0 s k o := by
  have hS := h s hs
  unfold WN f_X6_whyNot f_X8_whyNot f_X8_whyNoKey f_X6_whyNotOne
  simp only [kq0_33, kq0_43, mq0_7, mq0_1, mq0_0, m2_0, if_true, if_false, aget_nI hs (show 4 < 2 ^ 31 by decide), Option.bind_some, isIn_eq _ (show k < 64 by omega), bx_key h hs hk, has_eq hS.2.1 hs hk, count_eq, pcx_keys h hs, many_eq hS.2.1 hs]
  have := hS.2.2
  cases hb : S s k
  · simp only [b01f, if_true, n10e, show ((0 : Int32) = 1) = False from eq_false (by decide), if_false]
    rw [lit32 40]
    simp only [nI_lt' (show cnt (S s) 50 < 2 ^ 31 by omega) (show 40 < 2 ^ 31 by decide), nI_eq' (show cnt (S s) 50 < 2 ^ 31 by omega) (show 40 < 2 ^ 31 by decide)]
    by_cases c : cnt (S s) 50 = 40
    · rw [if_neg (by omega), if_pos c]
      exact ⟨3, by omega, rfl, rfl, fun q => by omega⟩
    · rw [if_pos (by omega), if_neg c]
      exact ⟨0, by omega, rfl, rfl, fun _ => ⟨fun q => by omega, fun q => ⟨by omega, hb⟩, fun q => by omega, fun q r => by omega, fun q => by omega, fun q => by omega⟩⟩
  · simp only [b01t, if_true, n10e, if_false]
    exact ⟨2, by omega, rfl, rfl, fun q => by omega⟩
theorem why1 (h : SetR S keys is) (hs : s < 4) (hk : k < 50) : WN S keys is sd 1 s k o := by
  have hS := h s hs
  unfold WN f_X6_whyNot f_X8_whyNot f_X8_whyNoKey f_X6_whyNotOne
  simp only [kq1_33, kq1_43, kq1_45, mq1_7, mq1_1, mq1_0, m2_1, if_true, if_false, aget_nI hs (show 4 < 2 ^ 31 by decide), Option.bind_some, isIn_eq _ (show k < 64 by omega), bx_key h hs hk, has_eq hS.2.1 hs hk]
  cases hb : S s k
  · simp only [b01f, if_true, show ((0 : Int32) = 1) = False from eq_false (by decide), if_false]
    exact ⟨2, by omega, rfl, rfl, fun q => by omega⟩
  · simp only [b01t, if_true, n10e, if_false]
    exact ⟨0, by omega, rfl, rfl, fun _ => ⟨fun q => by omega, fun q => by omega, fun q => hb, fun q r => by omega, fun q => by omega, fun q => by omega⟩⟩
theorem e_so (hs : s < 4) (ho : o < 4) : (nI s = nI o) = (s = o) := nI_eq' (by omega) (by omega)
theorem lgz (x : Int64) : (lg_cmp x 0 = 0) = (x = 0) := lg_eq x 0
theorem why46 (m : Nat) (hm : m = 4 ∨ m = 6) (hs : s < 4) (ho : o < 4) : WN S keys is sd m s k o := by
  unfold WN
  rcases hm with rfl | rfl
  · unfold f_X6_whyNot f_X8_whyNot f_X6_whyNotTwo
    simp only [kq4_33, kq4_43, kq4_45, kq4_38, kq4_124, kq4_47, mq4_7, mq4_2, mq4_3, mq4_4, m2_4, e_so hs ho, if_true, if_false, aget_nI hs (show 4 < 2 ^ 31 by decide), aget_nI ho (show 4 < 2 ^ 31 by decide), Option.bind_some]
    by_cases c : s = o
    · rw [if_pos c]; exact ⟨1, by omega, rfl, rfl, fun q => by omega⟩
    · rw [if_neg c]; exact ⟨0, by omega, rfl, rfl, fun _ => ⟨fun q => by omega, fun q => by omega, fun q => by omega, fun _ _ => c, fun q => by omega, fun q => by omega⟩⟩
  · unfold f_X6_whyNot f_X8_whyNot f_X6_whyNotTwo
    simp only [kq6_33, kq6_43, kq6_45, kq6_38, kq6_124, kq6_47, mq6_7, mq6_2, mq6_3, mq6_4, mq6_5, m2_6, e_so hs ho, if_true, if_false, aget_nI hs (show 4 < 2 ^ 31 by decide), aget_nI ho (show 4 < 2 ^ 31 by decide), Option.bind_some]
    by_cases c : s = o
    · rw [if_pos c]; exact ⟨1, by omega, rfl, rfl, fun q => by omega⟩
    · rw [if_neg c]; exact ⟨0, by omega, rfl, rfl, fun _ => ⟨fun q => by omega, fun q => by omega, fun q => by omega, fun _ _ => c, fun q => by omega, fun q => by omega⟩⟩
theorem why2 (h : SetR S keys is) (hs : s < 4) (ho : o < 4) : WN S keys is sd 2 s k o := by
  have hO := h o ho
  unfold WN f_X6_whyNot f_X8_whyNot f_X6_whyNotTwo
  simp only [kq2_33, kq2_43, kq2_45, kq2_38, kq2_124, kq2_47, mq2_7, mq2_2, m2_2, e_so hs ho, if_true, if_false, aget_nI hs (show 4 < 2 ^ 31 by decide), aget_nI ho (show 4 < 2 ^ 31 by decide), Option.bind_some, many_eq hO.2.1 ho, lgz]
  by_cases c : s = o
  · rw [if_pos c, if_pos c]; exact ⟨1, by omega, rfl, rfl, fun q => by omega⟩
  · rw [if_neg c, if_neg c]
    have l50 := cnt_le (S o) 50
    have e0 : (nI (cnt (S o) 50) ≤ (0 : Int32)) = (cnt (S o) 50 ≤ 0) := nI_le' (b := 0) (by omega) (by decide)
    simp only [e0]
    by_cases z : keys o = 0
    · have z' := (cnt_zero 50).mpr ((zero_iff hO.1).mp z)
      rw [if_pos z, if_pos (by omega)]
      exact ⟨0, by omega, rfl, rfl, fun _ => ⟨fun q => by omega, fun q => by omega, fun q => by omega, fun _ _ => c, fun q => (zero_iff hO.1).mp z, fun q => by omega⟩⟩
    · have z' : ¬ cnt (S o) 50 = 0 := fun q => z ((zero_iff hO.1).mpr ((cnt_zero 50).mp q))
      rw [if_neg z, if_neg (by omega)]
      exact ⟨4, by omega, rfl, rfl, fun q => by omega⟩
theorem why5 (h : SetR S keys is) (hs : s < 4) (ho : o < 4) : WN S keys is sd 5 s k o := by
  unfold WN f_X6_whyNot f_X8_whyNot f_X6_whyNotTwo
  simp only [kq5_33, kq5_43, kq5_45, kq5_38, kq5_124, kq5_47, mq5_7, mq5_2, mq5_3, mq5_4, mq5_5, m2_5, e_so hs ho, if_true, if_false, aget_nI hs (show 4 < 2 ^ 31 by decide), aget_nI ho (show 4 < 2 ^ 31 by decide), Option.bind_some, count_eq, pcx_or h hs ho, ofBoth_eq (h s hs).2.1 (h o ho).2.1 hs ho]
  by_cases c : s = o
  · rw [if_pos c, if_pos c]; exact ⟨1, by omega, rfl, rfl, fun q => by omega⟩
  · rw [if_neg c, if_neg c]
    have l50 := cnt_le (fun j => S s j || S o j) 50
    have e0 : (nI (cnt (fun j => S s j || S o j) 50) ≤ (40 : Int32)) = (cnt (fun j => S s j || S o j) 50 ≤ 40) := nI_le' (b := 40) (by omega) (by decide)
    simp only [e0]
    by_cases z : cnt (fun j => S s j || S o j) 50 ≤ 40
    · rw [if_pos z]
      exact ⟨0, by omega, rfl, rfl, fun _ => ⟨fun q => by omega, fun q => by omega, fun q => by omega, fun _ _ => c, fun q => by omega, fun q => z⟩⟩
    · rw [if_neg z]
      exact ⟨3, by omega, rfl, rfl, fun q => by omega⟩
theorem why3 (h : SetR S keys is) (hs : s < 4) (ho : o < 4) : WN S keys is sd 3 s k o := by
  unfold WN f_X6_whyNot f_X8_whyNot f_X6_whyNotTwo f_X8_whyNoJoin
  simp only [kq3_33, kq3_43, kq3_45, kq3_38, kq3_124, kq3_47, mq3_7, mq3_2, mq3_3, m2_3, e_so hs ho, if_true, if_false, aget_nI hs (show 4 < 2 ^ 31 by decide), aget_nI ho (show 4 < 2 ^ 31 by decide), Option.bind_some, count_eq, pcx_or h hs ho, ofBoth_eq (h s hs).2.1 (h o ho).2.1 hs ho, many_eq (h s hs).2.1 hs, many_eq (h o ho).2.1 ho, nI_add, lgz, lg_lt]
  by_cases c : s = o
  · rw [if_pos c, if_pos c]; exact ⟨1, by omega, rfl, rfl, fun q => by omega⟩
  · rw [if_neg c, if_neg c]
    have l50 := cnt_le (fun j => S s j || S o j) 50
    have l51 := cnt_le (S s) 50
    have l52 := cnt_le (S o) 50
    have l53 := cnt_or (S s) (S o) 50
    have e0 : (nI (cnt (fun j => S s j || S o j) 50) ≤ (40 : Int32)) = (cnt (fun j => S s j || S o j) 50 ≤ 40) := nI_le' (b := 40) (by omega) (by decide)
    have e1 : (nI (cnt (S s) 50 + cnt (S o) 50) ≤ (40 : Int32)) = (cnt (S s) 50 + cnt (S o) 50 ≤ 40) := nI_le' (b := 40) (by omega) (by decide)
    simp only [e0, e1]
    by_cases z : cnt (fun j => S s j || S o j) 50 ≤ 40
    · have ok : ∀ A : Prop, True := fun _ => trivial
      obtain ⟨b1, b2⟩ := cls_bey (h s hs).1 (h o ho).1
      have fin : Allowed S sd 3 s k o := ⟨fun q => by omega, fun q => by omega, fun q => by omega, fun _ _ => c, fun q => by omega, fun q => z⟩
      rcases mod_bey (h s hs).2.1 (h o ho).2.1 hs ho with ⟨m1, m2⟩ | ⟨m1, m2⟩
      · refine ⟨0, by omega, ?_, ?_, fun _ => fin⟩
        · rw [if_pos z]
          by_cases y : keys o = 0
          · rw [if_pos y]; rfl
          · rw [if_neg y, if_pos ((b2 y).mpr m2)]; rfl
        · simp only [m1, Option.bind_some, n10e, if_false]
          by_cases x : cnt (S s) 50 + cnt (S o) 50 ≤ 40
          · rw [if_pos x]; rfl
          · rw [if_neg x, if_pos z]; rfl
      · refine ⟨5, by omega, ?_, ?_, fun q => by omega⟩
        · rw [if_pos z]
          by_cases y : keys o = 0
          · exact absurd (b1 y) m2
          · rw [if_neg y, if_neg (fun q => m2 ((b2 y).mp q))]; rfl
        · simp only [m1, Option.bind_some, if_true]
          by_cases x : cnt (S s) 50 + cnt (S o) 50 ≤ 40
          · rw [if_pos x]; rfl
          · rw [if_neg x, if_pos z]; rfl
    · rw [if_neg z, if_neg (show ¬ cnt (S s) 50 + cnt (S o) 50 ≤ 40 by omega), if_neg z]
      exact ⟨3, by omega, rfl, rfl, fun q => by omega⟩
theorem why_eq (h : SetR S keys is) (hsd : sd < 10000) {m : Nat} (hm : m < 8) (hs : s < 4) (hk : k < 50) (ho : o < 4) : WN S keys is sd m s k o := by
  rcases (show m = 0 ∨ m = 1 ∨ m = 2 ∨ m = 3 ∨ m = 5 ∨ m = 7 ∨ (m = 4 ∨ m = 6) by omega) with rfl | rfl | rfl | rfl | rfl | rfl | h46
  · exact why0 h hs hk
  · exact why1 h hs hk
  · exact why2 h hs ho
  · exact why3 h hs ho
  · exact why5 h hs ho
  · exact why7 hsd
  · exact why46 m h46 hs ho
end Wn
end WhyTwo
