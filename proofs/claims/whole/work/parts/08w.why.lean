section Why
theorem bitv_toInt : ∀ j, j < 50 → (bitv j).toInt = (2 ^ j : Nat) := by decide +kernel
theorem bx_tn (x : Int64) (k : Nat) : bx x k = x.toBitVec.toNat.testBit k := rfl
theorem x_toInt {x : Int64} (h : ∀ k, 50 ≤ k → k < 64 → bx x k = false) : x.toInt = (x.toBitVec.toNat : Int) ∧ x.toBitVec.toNat < 2 ^ 50 := by
  have h1 : x.toBitVec.toNat < 2 ^ 50 := by
    refine Nat.lt_pow_two_of_testBit _ (fun i hi => ?_)
    by_cases c : i < 64
    · exact h i hi c
    · exact BitVec.getLsbD_of_ge _ _ (by omega)
  refine ⟨?_, h1⟩
  show x.toBitVec.toInt = _
  exact BitVec.toInt_eq_toNat_of_lt (by omega)
theorem lt_bitv {x : Int64} (h : ∀ k, 50 ≤ k → k < 64 → bx x k = false) {j : Nat} (hj : j < 50) : (x < bitv j) ↔ ∀ k, j ≤ k → k < 64 → bx x k = false := by
  obtain ⟨h1, h2⟩ := x_toInt h
  rw [Int64.lt_iff_toInt_lt, h1, bitv_toInt j hj]
  constructor
  · intro q k hk hk'
    have q' : x.toBitVec.toNat < 2 ^ j := by exact_mod_cast q
    rw [bx_tn]
    exact Nat.testBit_lt_two_pow (Nat.lt_of_lt_of_le q' (Nat.pow_le_pow_right (by decide) hk))
  · intro q
    have : x.toBitVec.toNat < 2 ^ j := by
      refine Nat.lt_pow_two_of_testBit _ (fun i hi => ?_)
      by_cases c : i < 64
      · exact q i hi c
      · exact BitVec.getLsbD_of_ge _ _ (by omega)
    exact_mod_cast this
theorem low_bitw {y : Int64} {j : Nat} (hj : j < 50) (h : bx y j = true) (hl : ∀ k, k < j → bx y k = false) : y &&& (-y) = bitv j := by
  refine Bits_un (q := fun k => decide (k = j)) (fun k hk => ?_) (fun k hk => bx_bit (by omega) hk)
  rw [bx_and]
  show (bx y k && bx (-y) k) = decide (k = j)
  have e : bx (-y) k = (bx y k ^^ (decide (k < 64) && decide (∃ i, i < k ∧ bx y i = true))) := by
    show (-y).toBitVec.getLsbD k = _
    rw [Int64.toBitVec_neg, BitVec.getLsbD_neg]
    rfl
  rw [e]
  by_cases c : k = j
  · subst c
    have : ¬ ∃ i, i < k ∧ bx y i = true := fun ⟨i, a, b⟩ => by rw [hl i a] at b; exact absurd b (by decide)
    rw [h, decide_eq_false this, decide_eq_true rfl, Bool.and_false]; rfl
  · by_cases c2 : k < j
    · rw [hl k c2, decide_eq_false c]; rfl
    · have : ∃ i, i < k ∧ bx y i = true := ⟨j, by omega, h⟩
      rw [decide_eq_true this, decide_eq_true hk, decide_eq_false c]
      cases bx y k <;> rfl
def bey (p q : Nat → Bool) : Prop := ∀ i k, i < 50 → k < 50 → p i = true → q k = true → i < k
theorem least_ex {q : Nat → Bool} : ∀ n, (∃ j, j < n ∧ q j = true ∧ ∀ k, k < j → q k = false) ∨ ∀ j, j < n → q j = false := by
  intro n
  induction n with
  | zero => exact Or.inr (fun j hj => absurd hj (by omega))
  | succ n ih =>
    rcases ih with ⟨j, a, b, c⟩ | h
    · exact Or.inl ⟨j, by omega, b, c⟩
    · by_cases c : q n = true
      · exact Or.inl ⟨n, by omega, c, h⟩
      · refine Or.inr (fun j hj => ?_)
        by_cases z : j = n
        · subst z; exact Bool.eq_false_iff.mpr c
        · exact h j (by omega)
theorem q50_hi {x : Int64} {p : Nat → Bool} (h : Bits x (q50 p)) : ∀ k, 50 ≤ k → k < 64 → bx x k = false := fun k h1 h2 => by
  rw [h k h2]; unfold q50; rw [decide_eq_false (by omega)]; rfl
theorem q50_lo {x : Int64} {p : Nat → Bool} (h : Bits x (q50 p)) : ∀ k, k < 50 → bx x k = p k := fun k h1 => by
  rw [h k (by omega)]; unfold q50; rw [decide_eq_true h1]; rfl
theorem zero_iff {x : Int64} {p : Nat → Bool} (h : Bits x (q50 p)) : x = 0 ↔ ∀ k, k < 50 → p k = false := by
  constructor
  · intro e k hk; rw [← q50_lo h k hk, e, bx_0]
  · intro q
    refine Bits_un h (fun k hk => ?_)
    rw [bx_0]; unfold q50
    by_cases c : k < 50
    · rw [q k c, Bool.and_false]
    · rw [decide_eq_false c]; rfl
/-- the class's look at the order of two sets -/
theorem cls_bey {x y : Int64} {p q : Nat → Bool} (hx : Bits x (q50 p)) (hy : Bits y (q50 q)) : (y = 0 → bey p q) ∧ (¬ y = 0 → ((x < y &&& (-y)) ↔ bey p q)) := by
  refine ⟨fun e => fun i k hi hk a b => ?_, fun ne => ?_⟩
  · rw [(zero_iff hy).mp e k hk] at b; exact absurd b (by decide)
  · rcases least_ex (q := q) 50 with ⟨j, hj, h1, h2⟩ | h
    · rw [low_bitw hj (by rw [q50_lo hy j hj]; exact h1) (fun k hk => by rw [q50_lo hy k (by omega)]; exact h2 k hk), lt_bitv (q50_hi hx) hj]
      constructor
      · intro g i k hi hk a b
        have c1 : ¬ k < j := fun z => by rw [h2 k z] at b; exact absurd b (by decide)
        by_cases c2 : i < j
        · omega
        · have := g i (by omega) (by omega)
          rw [q50_lo hx i hi, a] at this; exact absurd this (by decide)
      · intro g k hk hk'
        by_cases c : k < 50
        · rw [q50_lo hx k c]
          by_cases c2 : p k = true
          · have := g k j c hj c2 h1; omega
          · exact Bool.eq_false_iff.mpr c2
        · exact q50_hi hx k (by omega) hk'
    · exact absurd ((zero_iff hy).mpr h) ne
theorem bey6 {is : Nat → Int32} {g : Nat} {p : Nat → Bool} (hM : MR is g p) (hg : g < 4) : ∀ n k l, k ≤ 50 → 51 ≤ k + n → ((l = -6 ∧ ∀ i, i < k → p i = false) ∨ ∃ t, t < k ∧ l = nI t ∧ p t = true ∧ ∀ i, t < i → i < k → p i = false) →
    ∃ l', L_X8_isBeyond_6 n is (nI g) l (nI k) = some l' ∧ ((l' = -6 ∧ ∀ i, i < 50 → p i = false) ∨ ∃ t, t < 50 ∧ l' = nI t ∧ p t = true ∧ ∀ i, t < i → i < 50 → p i = false) := by
  intro n
  induction n with
  | zero => intro k l h1 h2; omega
  | succ n ih =>
    intro k l h1 h2 h
    rw [L_X8_isBeyond_6]
    by_cases c : k = 50
    · subst c; rw [if_pos (by decide)]; exact ⟨l, rfl, h⟩
    · rw [lit32 50, if_neg (nI_ge (by omega) (by omega)), has_eq hM hg (by omega), Option.bind_some, nI_one]
      by_cases z : p k = true
      · rw [z, b01t, if_neg (by decide)]
        exact ih (k + 1) (nI k) (by omega) (by omega) (Or.inr ⟨k, by omega, rfl, z, fun i a b => by omega⟩)
      · have z' := Bool.eq_false_iff.mpr z
        rw [z', b01f, if_pos rfl]
        refine ih (k + 1) l (by omega) (by omega) ?_
        rcases h with ⟨a, b⟩ | ⟨t, a, b, d, e⟩
        · refine Or.inl ⟨a, fun i hi => ?_⟩
          by_cases y : i = k
          · rw [y]; exact z'
          · exact b i (by omega)
        · refine Or.inr ⟨t, by omega, b, d, fun i h1 h2 => ?_⟩
          by_cases y : i = k
          · rw [y]; exact z'
          · exact e i h1 (by omega)
theorem bey42_0 {is : Nat → Int32} {go : Int32} {l3 : Int32} : ∀ n k, k ≤ 50 → 51 ≤ k + n → L_X8_isBeyond_42 n is go l3 0 (nI k) = some 0 := by
  intro n
  induction n with
  | zero => intro k h1 h2; omega
  | succ n ih =>
    intro k h1 h2
    rw [L_X8_isBeyond_42]
    by_cases c : k = 50
    · subst c; rw [if_pos (by decide)]
    · rw [lit32 50, if_neg (nI_ge (by omega) (by omega)), if_pos rfl, nI_one]; exact ih (k + 1) (by omega) (by omega)
theorem bey42 {is : Nat → Int32} {g : Nat} {q : Nat → Bool} (hM : MR is g q) (hg : g < 4) (l3 : Int32) : ∀ n k, k ≤ 50 → 51 ≤ k + n →
    (L_X8_isBeyond_42 n is (nI g) l3 1 (nI k) = some 1 ∧ ∀ i, k ≤ i → i < 50 → q i = true → ¬ nI i ≤ l3) ∨ (L_X8_isBeyond_42 n is (nI g) l3 1 (nI k) = some 0 ∧ ∃ i, i < 50 ∧ q i = true ∧ nI i ≤ l3) := by
  intro n
  induction n with
  | zero => intro k h1 h2; omega
  | succ n ih =>
    intro k h1 h2
    rw [L_X8_isBeyond_42]
    by_cases c : k = 50
    · subst c; rw [if_pos (by decide)]; exact Or.inl ⟨rfl, fun i a b => by omega⟩
    · rw [lit32 50, if_neg (nI_ge (by omega) (by omega)), if_neg (show ¬ (1 : Int32) = 0 by decide), has_eq hM hg (by omega), Option.bind_some, nI_one]
      by_cases z : q k = true
      · rw [z, b01t, if_neg (show ¬ (1 : Int32) = 0 by decide)]
        by_cases y : nI k ≤ l3
        · rw [if_pos y, bey42_0 n (k + 1) (by omega) (by omega)]; exact Or.inr ⟨rfl, k, by omega, z, y⟩
        · rw [if_neg y]
          rcases ih (k + 1) (by omega) (by omega) with ⟨a, b⟩ | r
          · refine Or.inl ⟨a, fun i h1 h2 h3 => ?_⟩
            by_cases w : i = k
            · rw [w]; exact y
            · exact b i (by omega) h2 h3
          · exact Or.inr r
      · rw [Bool.eq_false_iff.mpr z, b01f, if_pos rfl]
        rcases ih (k + 1) (by omega) (by omega) with ⟨a, b⟩ | r
        · refine Or.inl ⟨a, fun i h1 h2 h3 => ?_⟩
          by_cases w : i = k
          · rw [w] at h3; exact absurd h3 z
          · exact b i (by omega) h2 h3
        · exact Or.inr r
theorem mod_bey {is : Nat → Int32} {g o : Nat} {p q : Nat → Bool} (hp : MR is g p) (hq : MR is o q) (hg : g < 4) (ho : o < 4) : (f_X8_isBeyond is (nI g) (nI o) = some 1 ∧ bey p q) ∨ (f_X8_isBeyond is (nI g) (nI o) = some 0 ∧ ¬ bey p q) := by
  unfold f_X8_isBeyond
  obtain ⟨l, e, h⟩ := bey6 hp hg 20000 0 (-6) (by omega) (by omega) (Or.inl ⟨rfl, fun i hi => absurd hi (by omega)⟩)
  rw [(show L_X8_isBeyond_6 20000 is (nI g) (-6) 0 = some l from e), Option.bind_some]
  rcases bey42 hq ho l 20000 0 (by omega) (by omega) with ⟨e2, h2⟩ | ⟨e2, i, a, b, c⟩
  · refine Or.inl ⟨?_, fun i k hi hk x y => ?_⟩
    · rw [(show L_X8_isBeyond_42 20000 is (nI o) l 1 0 = some 1 from e2)]; rfl
    · rcases h with ⟨_, h⟩ | ⟨t, ht, rfl, h3, h4⟩
      · rw [h i hi] at x; exact absurd x (by decide)
      · have := h2 k (by omega) hk y
        rw [nI_le' (by omega) (by omega)] at this
        by_cases z : t < i
        · rw [h4 i z hi] at x; exact absurd x (by decide)
        · omega
  · refine Or.inr ⟨?_, fun B => ?_⟩
    · rw [(show L_X8_isBeyond_42 20000 is (nI o) l 1 0 = some 0 from e2)]; rfl
    · rcases h with ⟨rfl, _⟩ | ⟨t, ht, rfl, h3, h4⟩
      · rw [le32, nI_toInt (by omega)] at c
        have : (-6 : Int32).toInt = -6 := rfl
        omega
      · rw [nI_le' (by omega) (by omega)] at c
        have := B t i ht a h3 b
        omega
end Why
