/-! numbers -/
theorem lit32 (n : Nat) : (OfNat.ofNat n : Int32) = nI n := rfl
theorem litL (n : Nat) : (OfNat.ofNat n : Int64) = lN n := rfl
theorem aget_nI {α : Type} {n j : Nat} {f : Nat → α} (h : j < n) (hn : n < 2 ^ 31) : aget n f (nI j) = some (f j) := by
  unfold aget
  rw [if_neg (nI_in h hn), nI_clamp (by omega)]
theorem aset_nI {n j : Nat} {f : Nat → Int32} {x : Int32} (h : j < n) (hn : n < 2 ^ 31) : aset n f (nI j) x = some (upd f j x) := by
  unfold aset
  rw [if_neg (nI_in h hn), nI_clamp (by omega)]
theorem asetL_nI {n j : Nat} {f : Nat → Int64} {x : Int64} (h : j < n) (hn : n < 2 ^ 31) : asetL n f (nI j) x = some (vp_updL f j x) := by
  unfold asetL
  rw [if_neg (nI_in h hn), nI_clamp (by omega)]
theorem nI_one (n : Nat) : nI n + (1 : Int32) = nI (n + 1) := nI_add n 1
theorem nI_mone (n : Nat) : nI (n + 1) + (-1 : Int32) = nI n := pk_m1 n
theorem nI_sone (n : Nat) : nI (n + 1) - (1 : Int32) = nI n := nI_pred n
theorem nI_lt' {a b : Nat} (ha : a < 2 ^ 31) (hb : b < 2 ^ 31) : (nI a < nI b) = (a < b) := propext (nI_ltI ha hb)
theorem nI_le' {a b : Nat} (ha : a < 2 ^ 31) (hb : b < 2 ^ 31) : (nI a ≤ nI b) = (a ≤ b) := propext (nI_leI ha hb)
theorem nI_eq' {a b : Nat} (ha : a < 2 ^ 31) (hb : b < 2 ^ 31) : (nI a = nI b) = (a = b) := propext (nI_eq ha hb)
theorem lg_eq (x y : Int64) : (lg_cmp x y = 0) = (x = y) := by
  apply propext
  unfold lg_cmp
  by_cases h : x > y
  · rw [if_pos h]
    constructor
    · intro h; exact absurd h (by decide)
    · intro e; subst e; exact absurd h (by rw [gt_iff_lt, Int64.lt_iff_toInt_lt]; omega)
  · rw [if_neg h]
    by_cases e : x = y
    · rw [if_pos e]; exact ⟨fun _ => e, fun _ => rfl⟩
    · rw [if_neg e]; exact ⟨fun h => absurd h (by decide), fun h => absurd h e⟩
theorem lg_lt (x y : Int64) : (lg_cmp x y < 0) = (x < y) := by
  apply propext
  unfold lg_cmp
  by_cases h : x > y
  · rw [if_pos h]
    exact ⟨fun h => absurd h (by decide), fun e => by rw [gt_iff_lt, Int64.lt_iff_toInt_lt] at h; rw [Int64.lt_iff_toInt_lt] at e; omega⟩
  · rw [if_neg h]
    by_cases e : x = y
    · rw [if_pos e]; subst e; exact ⟨fun h => absurd h (by decide), fun e => by rw [Int64.lt_iff_toInt_lt] at e; omega⟩
    · rw [if_neg e]
      refine ⟨fun _ => ?_, fun _ => by decide⟩
      rw [gt_iff_lt, Int64.lt_iff_toInt_lt] at h
      rw [Int64.lt_iff_toInt_lt]
      have : x.toInt ≠ y.toInt := fun q => e (Int64.toInt_inj.mp q)
      omega
theorem lg_gt (x y : Int64) : (0 < lg_cmp x y) = (y < x) := by
  apply propext
  unfold lg_cmp
  by_cases h : x > y
  · rw [if_pos h]; exact ⟨fun _ => h, fun _ => by decide⟩
  · rw [if_neg h]
    by_cases e : x = y
    · rw [if_pos e]; exact ⟨fun q => absurd q (by decide), fun q => absurd q h⟩
    · rw [if_neg e]; exact ⟨fun q => absurd q (by decide), fun q => absurd q h⟩
theorem in_eq (a b c : Int64) : f_X8_in a b c = some (if b.toInt ≤ a.toInt ∧ a.toInt ≤ c.toInt then 1 else 0) := by
  unfold f_X8_in
  simp only [lg_lt, lg_gt, Int64.lt_iff_toInt_lt]
  by_cases h1 : a.toInt < b.toInt
  · rw [if_pos h1, if_neg (by omega)]
  · rw [if_neg h1]
    by_cases h2 : c.toInt < a.toInt
    · rw [if_pos h2, if_neg (by omega)]
    · rw [if_neg h2, if_pos (by omega)]
theorem to64 (x : Int32) : x.toInt64.toInt = x.toInt := Int32.toInt_toInt64 x
/-- which of n a number names, if one -/
theorem ixc (x : Int32) (n : Nat) (hn : n < 2 ^ 31) : (∃ j, j < n ∧ x = nI j) ∨ (x.toInt < 0 ∨ (n : Int) ≤ x.toInt) := by
  rcases pk_ix x hn with h | h | ⟨j, h1, h2⟩
  · right; left; rw [Int32.lt_iff_toInt_lt] at h; exact h
  · right; right; rw [Int32.le_iff_toInt_le, nI_toInt hn] at h; exact h
  · exact Or.inl ⟨j, h1, h2⟩
theorem l32 (a b : Int32) : (a < b) = (a.toInt < b.toInt) := propext Int32.lt_iff_toInt_lt
theorem le32 (a b : Int32) : (a ≤ b) = (a.toInt ≤ b.toInt) := propext Int32.le_iff_toInt_le
theorem e32 (a b : Int32) : (a = b) = (a.toInt = b.toInt) := propext Int32.toInt_inj.symm
theorem isSet_in {j : Nat} (h : j < 4) : f_X7_isSet (nI j) = some 1 := by
  rcases (show j = 0 ∨ j = 1 ∨ j = 2 ∨ j = 3 by omega) with rfl | rfl | rfl | rfl <;> decide
theorem isSet_out {x : Int32} (h : x.toInt < 0 ∨ (4 : Int) ≤ x.toInt) : f_X7_isSet x = some 0 := by
  unfold f_X7_isSet
  simp only [l32, le32]
  by_cases h1 : x.toInt < (0 : Int32).toInt
  · rw [if_pos h1]
  · rw [if_neg h1, if_pos]
    have e0 : (0 : Int32).toInt = 0 := rfl
    have e4 : (4 : Int32).toInt = 4 := rfl
    omega
theorem isKey_in {j : Nat} (h : j < 50) : f_X7_isKey (nI j) = some 1 := by
  have hh : ∀ j, j < 50 → f_X7_isKey (nI j) = some 1 := by decide +kernel
  exact hh j h
theorem isKey_out {x : Int32} (h : x.toInt < 0 ∨ (50 : Int) ≤ x.toInt) : f_X7_isKey x = some 0 := by
  unfold f_X7_isKey
  simp only [l32, le32]
  by_cases h1 : x.toInt < (0 : Int32).toInt
  · rw [if_pos h1]
  · rw [if_neg h1, if_pos]
    have e0 : (0 : Int32).toInt = 0 := rfl
    have e4 : (50 : Int32).toInt = 50 := rfl
    omega
theorem isSeed_in {j : Nat} (h : j < 10000) : f_X7_isSeed (nI j) = some 1 := by
  unfold f_X7_isSeed
  rw [lit32 0, lit32 10000, if_neg (nI_nlt (Nat.zero_le _) (by omega)), if_neg (nI_ge h (by omega))]
theorem isSeed_out {x : Int32} (h : x.toInt < 0 ∨ (10000 : Int) ≤ x.toInt) : f_X7_isSeed x = some 0 := by
  unfold f_X7_isSeed
  simp only [l32, le32]
  by_cases h1 : x.toInt < (0 : Int32).toInt
  · rw [if_pos h1]
  · rw [if_neg h1, if_pos]
    have e0 : (0 : Int32).toInt = 0 := rfl
    have e4 : (10000 : Int32).toInt = 10000 := rfl
    omega
theorem mSet_in {j : Nat} (h : j < 4) : f_X8_isSet (nI j) = some 1 := by
  rcases (show j = 0 ∨ j = 1 ∨ j = 2 ∨ j = 3 by omega) with rfl | rfl | rfl | rfl <;> decide
theorem in32 (x : Int32) (lo hi : Int64) {a b : Int} (ha : lo.toInt = a) (hb : hi.toInt = b) : f_X8_in x.toInt64 lo hi = some (if a ≤ x.toInt ∧ x.toInt ≤ b then 1 else 0) := by
  rw [in_eq, to64, ha, hb]
theorem mSet_out {x : Int32} (h : x.toInt < 0 ∨ (4 : Int) ≤ x.toInt) : f_X8_isSet x = some 0 := by
  unfold f_X8_isSet
  rw [in32 x 0 3 (a := 0) (b := 3) rfl rfl, if_neg (by omega)]
  rfl
theorem mKey_in {j : Nat} (h : j < 50) : f_X8_isKey (nI j) = some 1 := by
  have hh : ∀ j, j < 50 → f_X8_isKey (nI j) = some 1 := by decide +kernel
  exact hh j h
theorem mKey_out {x : Int32} (h : x.toInt < 0 ∨ (50 : Int) ≤ x.toInt) : f_X8_isKey x = some 0 := by
  unfold f_X8_isKey
  rw [in32 x 0 49 (a := 0) (b := 49) rfl rfl, if_neg (by omega)]
  rfl
/-! priorities -/
def prN (s k : Nat) : Nat := ((s + 131 * k) % 10007) * ((s + 131 * k) % 10007) % 10007
def rk (s a b : Nat) : Prop := prN s b < prN s a ∨ (prN s a = prN s b ∧ a < b)
theorem rem32 {a d : Nat} (ha : a < 2 ^ 31) (h0 : 0 < d) (hd : d < 2 ^ 31) : nI a - nI a / nI d * nI d = nI (a % d) := pk_rem ha h0 hd
theorem prN_lt (s k : Nat) : prN s k < 10007 := Nat.mod_lt _ (by decide)
theorem prio_eq {s k : Nat} (hs : s < 10000) (hk : k < 50) : f_X7_priority (nI s) (nI k) = some (nI (prN s k)) := by
  unfold f_X7_priority
  have e1 : nI s + (131 : Int32) * nI k = nI (s + 131 * k) := by rw [lit32 131, pk_mul, nI_add]
  rw [e1, lit32 10007, rem32 (by omega) (by decide) (by decide), pk_mul]
  have hx : (s + 131 * k) % 10007 < 10007 := Nat.mod_lt _ (by decide)
  generalize hy : (s + 131 * k) % 10007 = y at hx
  have h2 : y * y ≤ 10006 * 10006 := Nat.mul_le_mul (by omega) (by omega)
  rw [rem32 (by omega) (by decide) (by decide)]
  unfold prN
  rw [hy]
theorem mprio_eq {s k : Nat} (hs : s < 10000) (hk : k < 50) : f_X8_priorityBy (nI s) (nI k) = some (nI (prN s k)) := prio_eq hs hk
def b01 (b : Bool) : Int32 := if b then 1 else 0
theorem rk_dec (s a b : Nat) : rk s a b ∨ ¬ rk s a b := by unfold rk; omega
def rkB (s a b : Nat) : Bool := decide (prN s b < prN s a) || (decide (prN s a = prN s b) && decide (a < b))
theorem rkB_iff {s a b : Nat} : rkB s a b = true ↔ rk s a b := by
  unfold rkB rk
  simp only [Bool.or_eq_true, Bool.and_eq_true, decide_eq_true_eq]
theorem ranks_eq {s a b : Nat} (hs : s < 10000) (ha : a < 50) (hb : b < 50) : f_X7_ranksAbove (nI s) (nI a) (nI b) = some (b01 (rkB s a b)) := by
  unfold f_X7_ranksAbove
  rw [prio_eq hs ha, prio_eq hs hb]
  have h1 := prN_lt s a
  have h2 := prN_lt s b
  simp only [Option.bind_some]
  simp only [nI_eq' (show prN s a < 2 ^ 31 by omega) (show prN s b < 2 ^ 31 by omega), nI_le' (show b < 2 ^ 31 by omega) (show a < 2 ^ 31 by omega), nI_le' (show prN s a < 2 ^ 31 by omega) (show prN s b < 2 ^ 31 by omega)]
  unfold b01
  by_cases c : rkB s a b = true
  · have := rkB_iff.mp c
    unfold rk at this
    rw [if_pos c]
    split
    · rw [if_neg (by omega)]
    · rw [if_neg (by omega)]
  · have : ¬ rk s a b := fun h => c (rkB_iff.mpr h)
    unfold rk at this
    rw [if_neg c]
    split
    · rw [if_pos (by omega)]
    · rw [if_pos (by omega)]
theorem mranks_eq {s a b : Nat} (hs : s < 10000) (ha : a < 50) (hb : b < 50) : f_X8_ranksBy (nI s) (nI a) (nI b) = some (b01 (rkB s a b)) := by
  unfold f_X8_ranksBy
  rw [mprio_eq hs ha, mprio_eq hs hb]
  have h1 := prN_lt s a
  have h2 := prN_lt s b
  simp only [Option.bind_some]
  simp only [nI_eq' (show prN s a < 2 ^ 31 by omega) (show prN s b < 2 ^ 31 by omega), nI_le' (show b < 2 ^ 31 by omega) (show a < 2 ^ 31 by omega), nI_lt' (show prN s b < 2 ^ 31 by omega) (show prN s a < 2 ^ 31 by omega)]
  unfold b01
  by_cases c : rkB s a b = true
  · have := rkB_iff.mp c
    unfold rk at this
    rw [if_pos c]
    split
    · rfl
    · rw [if_pos (by omega), if_neg (by omega)]
  · have : ¬ rk s a b := fun h => c (rkB_iff.mpr h)
    unfold rk at this
    rw [if_neg c]
    rw [if_neg (by omega)]
    split
    · rw [if_pos (by omega)]
    · rfl
theorem mranks2_eq {s a b : Nat} (hs : s < 10000) (ha : a < 50) (hb : b < 50) : f_X8_ranks (nI s) (nI a) (nI b) = some (b01 (rkB s a b)) := by
  unfold f_X8_ranks
  rw [mranks_eq hs ha hb]
  unfold b01 bz
  cases rkB s a b <;> rfl
