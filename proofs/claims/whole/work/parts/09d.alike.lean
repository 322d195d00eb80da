section Alike
def al (keys : Nat → Int64) (g h : Nat) : Bool := !decide (keys g = 0) && decide (keys g = keys h)
theorem same_eq {keys : Nat → Int64} {g h : Nat} (hg : g < 4) (hh : h < 4) : f_X5_sameKeys keys (nI g) (nI h) = some (b01 (al keys g h)) := by
  have f4 : (4 : Nat) < 2 ^ 31 := by decide
  unfold f_X5_sameKeys
  simp only [aget_nI hg f4, aget_nI hh f4, Option.bind_some, lg_eq]
  unfold al
  by_cases c1 : keys g = 0
  · rw [if_pos c1, decide_eq_true c1]; rfl
  · rw [if_neg c1, decide_eq_false c1]
    by_cases c2 : keys g = keys h
    · rw [if_pos c2, decide_eq_true c2]; rfl
    · rw [if_neg c2, decide_eq_false c2]; rfl
theorem a17_0 {is : Nat → Int32} {a b : Int32} : ∀ n k, k ≤ 50 → 51 ≤ k + n → L_X8_areAlike_17 n is a b 0 (nI k) = some 0 := by
  intro n
  induction n with
  | zero => intro k h1 h2; omega
  | succ n ih =>
    intro k h1 h2
    rw [L_X8_areAlike_17]
    by_cases c : k = 50
    · subst c; rw [if_pos (by decide)]
    · rw [lit32 50, if_neg (nI_ge (by omega) (by omega)), if_pos rfl, nI_one]; exact ih (k + 1) (by omega) (by omega)
theorem b01_inj {a b : Bool} (h : b01 a = b01 b) : a = b := by cases a <;> cases b <;> first | rfl | exact absurd h (by decide)
theorem a17_1 {is : Nat → Int32} {g o : Nat} {p q : Nat → Bool} (hp : MR is g p) (hq : MR is o q) (hg : g < 4) (ho : o < 4) : ∀ n k, k ≤ 50 → 51 ≤ k + n →
    (L_X8_areAlike_17 n is (nI g) (nI o) 1 (nI k) = some 1 ∧ ∀ j, k ≤ j → j < 50 → p j = q j) ∨ (L_X8_areAlike_17 n is (nI g) (nI o) 1 (nI k) = some 0 ∧ ∃ j, j < 50 ∧ p j ≠ q j) := by
  intro n
  induction n with
  | zero => intro k h1 h2; omega
  | succ n ih =>
    intro k h1 h2
    rw [L_X8_areAlike_17]
    by_cases c : k = 50
    · subst c; rw [if_pos (by decide)]; exact Or.inl ⟨rfl, fun j a b => by omega⟩
    · rw [lit32 50, if_neg (nI_ge (by omega) (by omega)), if_neg (show ¬ (1 : Int32) = 0 by decide), has_eq hp hg (by omega), Option.bind_some, has_eq hq ho (by omega), Option.bind_some, nI_one]
      by_cases z : p k = q k
      · rw [if_pos (by rw [z])]
        rcases ih (k + 1) (by omega) (by omega) with ⟨a, b⟩ | r
        · refine Or.inl ⟨a, fun j h1 h2 => ?_⟩
          by_cases w : j = k
          · rw [w]; exact z
          · exact b j (by omega) h2
        · exact Or.inr r
      · rw [if_neg (fun e => z (b01_inj e)), a17_0 n (k + 1) (by omega) (by omega)]
        exact Or.inr ⟨rfl, k, by omega, z⟩
theorem are_eq {S : Nat → Nat → Bool} {keys : Nat → Int64} {is : Nat → Int32} (h : SetR S keys is) {g o : Nat} (hg : g < 4) (ho : o < 4) : f_X8_areAlike is (nI g) (nI o) = some (b01 (al keys g o)) := by
  have hG := h g hg
  have hO := h o ho
  have l50 := cnt_le (S g) 50
  unfold f_X8_areAlike
  rw [many_eq hG.2.1 hg, Option.bind_some]
  have e0 : (nI (cnt (S g) 50) ≤ (0 : Int32)) = (cnt (S g) 50 ≤ 0) := nI_le' (b := 0) (by omega) (by decide)
  simp only [e0]
  unfold al
  by_cases c1 : keys g = 0
  · have := (cnt_zero 50).mpr ((zero_iff hG.1).mp c1)
    rw [if_pos (by omega), Option.bind_some, (show L_X8_areAlike_17 20000 is (nI g) (nI o) 0 0 = some 0 from a17_0 20000 0 (by omega) (by omega)), decide_eq_true c1]; rfl
  · have : ¬ cnt (S g) 50 = 0 := fun q => c1 ((zero_iff hG.1).mpr ((cnt_zero 50).mp q))
    rw [if_neg (by omega), Option.bind_some, decide_eq_false c1]
    rcases a17_1 hG.2.1 hO.2.1 hg ho 20000 0 (by omega) (by omega) with ⟨e, q⟩ | ⟨e, j, hj, q⟩
    · have e2 : keys g = keys o := Bits_un hG.1 (fun k hk => by
        rw [hO.1 k hk]; unfold q50
        by_cases c : k < 50
        · rw [q k (by omega) c]
        · rw [decide_eq_false c]; rfl)
      rw [(show L_X8_areAlike_17 20000 is (nI g) (nI o) 1 0 = some 1 from e), decide_eq_true e2]; rfl
    · have e2 : ¬ keys g = keys o := fun z => q (by rw [← bx_key h hg hj, ← bx_key h ho hj, z])
      rw [(show L_X8_areAlike_17 20000 is (nI g) (nI o) 1 0 = some 0 from e), decide_eq_false e2]; rfl
def mo (x : Int32) (i : Nat) (b : Bool) : Int32 := x ||| (if b then (1 : Int32) <<< (nI i &&& 31) else 0)
def MK (a b c d e f : Bool) : Int32 := mo (mo (mo (mo (mo (mo 0 1 a) 2 b) 3 c) 6 d) 7 e) 11 f
section A13
variable {S : Nat → Nat → Bool} {keys : Nat → Int64} {is : Nat → Int32}
theorem a13 (h : SetR S keys is) {g o : Nat} (hg : g < 4) (ho : o < 4) (n : Nat) (x : Int32) : L_X8_alikeOnes_13 (n + 1) is x (nI g) (nI o) = L_X8_alikeOnes_13 n is (mo x (4 * g + o) (al keys g o)) (nI g) (nI (o + 1)) := by
  rw [L_X8_alikeOnes_13, lit32 4, if_neg (nI_ge (by omega) (by omega)), are_eq h hg ho, Option.bind_some, pk_mul, nI_add, nI_one]
  cases al keys g o
  · rw [b01f, if_pos rfl]; rfl
  · rw [b01t, if_neg (by decide)]; rfl
theorem a13e (g : Int32) (n : Nat) (x : Int32) : L_X8_alikeOnes_13 (n + 1) is x g (nI 4) = some x := by
  rw [L_X8_alikeOnes_13, if_pos (by decide)]
theorem row0 (h : SetR S keys is) (n : Nat) (x : Int32) : L_X8_alikeOnes_13 (n + 4) is x (nI 0) (nI 1) = some (mo (mo (mo x 1 (al keys 0 1)) 2 (al keys 0 2)) 3 (al keys 0 3)) := by
  rw [a13 h (by omega) (by omega), a13 h (by omega) (by omega), a13 h (by omega) (by omega), a13e]
theorem row1 (h : SetR S keys is) (n : Nat) (x : Int32) : L_X8_alikeOnes_13 (n + 3) is x (nI 1) (nI 2) = some (mo (mo x 6 (al keys 1 2)) 7 (al keys 1 3)) := by
  rw [a13 h (by omega) (by omega), a13 h (by omega) (by omega), a13e]
theorem row2 (h : SetR S keys is) (n : Nat) (x : Int32) : L_X8_alikeOnes_13 (n + 2) is x (nI 2) (nI 3) = some (mo x 11 (al keys 2 3)) := by
  rw [a13 h (by omega) (by omega), a13e]
theorem a4s (n : Nat) (x y : Int32) {g : Nat} (hg : g < 4) (e : L_X8_alikeOnes_13 20000 is x (nI g) (nI (g + 1)) = some y) : L_X8_alikeOnes_4 (n + 1) is x (nI g) = L_X8_alikeOnes_4 n is y (nI (g + 1)) := by
  rw [L_X8_alikeOnes_4, lit32 4, if_neg (nI_ge (by omega) (by omega)), nI_one, e, Option.bind_some]
theorem ones_al (h : SetR S keys is) : f_X8_alikeOnes is = some (MK (al keys 0 1) (al keys 0 2) (al keys 0 3) (al keys 1 2) (al keys 1 3) (al keys 2 3)) := by
  have t : ∀ n, L_X8_alikeOnes_4 (n + 5) is 0 (nI 0) = some (MK (al keys 0 1) (al keys 0 2) (al keys 0 3) (al keys 1 2) (al keys 1 3) (al keys 2 3)) := fun n => by
    rw [a4s (n + 4) 0 _ (by omega) (row0 h 19996 0), a4s (n + 3) _ _ (by omega) (row1 h 19997 _), a4s (n + 2) _ _ (by omega) (row2 h 19998 _), a4s (n + 1) _ _ (by omega) (a13e (nI 3) 19999 _), L_X8_alikeOnes_4, if_pos (by decide)]
    rfl
  unfold f_X8_alikeOnes
  rw [(show L_X8_alikeOnes_4 20000 is 0 0 = _ from t 19995)]; rfl
end A13
end Alike
