/-! rows wb_ and g_and: from kit/laws/BITS.to-paste -/
theorem wb_tb (n : Nat) : (lN n).toBitVec = BitVec.ofNat 64 n := rfl
theorem wb_inj {a b : Int64} (h : a.toBitVec = b.toBitVec) : a = b := Int64.toBitVec_inj.mp h
theorem wb_tn {n : Nat} (h : n < 2 ^ 64) : (lN n).toBitVec.toNat = n := by rw [wb_tb, BitVec.toNat_ofNat, Nat.mod_eq_of_lt h]
theorem wb_of (x : Int64) : ∃ n, n < 2 ^ 64 ∧ x = lN n := ⟨x.toBitVec.toNat, x.toBitVec.isLt, wb_inj (by rw [wb_tb]; simp)⟩
theorem wb_cu : ∀ k, k < 64 → ((nI k).toInt64.toUInt64 &&& Int64.toUInt64 63) = UInt64.ofNat k := by decide +kernel
theorem wb_shr {n k : Nat} (hn : n < 2 ^ 64) (hk : k < 64) : ((lN n).toUInt64 >>> ((nI k).toInt64.toUInt64 &&& Int64.toUInt64 63)).toInt64 = lN (n / 2 ^ k) := by
  rw [wb_cu k hk]
  apply wb_inj
  apply BitVec.eq_of_toNat_eq
  show ((lN n).toUInt64 >>> UInt64.ofNat k).toNat = (BitVec.ofNat 64 _).toNat
  have h1 : (UInt64.ofNat k).toNat = k := by
    show (BitVec.ofNat 64 k).toNat = k
    rw [BitVec.toNat_ofNat, Nat.mod_eq_of_lt (by omega)]
  have h2 : (lN n).toUInt64.toNat = n := wb_tn hn
  rw [UInt64.toNat_shiftRight, h1, h2, Nat.mod_eq_of_lt hk, Nat.shiftRight_eq_div_pow, BitVec.toNat_ofNat, Nat.mod_eq_of_lt (Nat.lt_of_le_of_lt (Nat.div_le_self _ _) hn)]
theorem u_tn {n : Nat} (h : n < 2 ^ 64) : (UInt64.ofNat n).toNat = n := Nat.mod_eq_of_lt h
theorem g_and {a b c : Nat} (ha : a < 2 ^ 64) (hb : b < 2 ^ 64) (hc : a &&& b = c) : lN a &&& lN b = lN c := by
  subst hc
  have h : UInt64.ofNat a &&& UInt64.ofNat b = UInt64.ofNat (a &&& b) := UInt64.toNat_inj.mp (by rw [UInt64.toNat_and, u_tn ha, u_tn hb, u_tn (Nat.and_lt_two_pow a hb)])
  have h2 := congrArg UInt64.toInt64 h
  exact h2
/-! how many bits -/
theorem cnt_add {q r : Nat → Bool} : ∀ n i, i < n → (∀ j, j < n → j ≠ i → r j = q j) → q i = false → r i = true → cnt r n = cnt q n + 1 := by
  intro n
  induction n with
  | zero => intro i hi; omega
  | succ n ih =>
    intro i hi h h1 h2
    rw [cnt, cnt]
    by_cases z : i = n
    · subst z
      rw [cnt_congr i (fun j hj => h j (by omega) (by omega)), h1, h2]; simp
    · rw [ih i (by omega) (fun j hj hn => h j (by omega) hn) h1 h2, h n (by omega) (by omega)]; omega
def pcx (x : Int64) : Nat := cnt (bx x) 64
theorem pcx_le (x : Int64) : pcx x ≤ 64 := cnt_le _ _
theorem cnt_zero {q : Nat → Bool} : ∀ n, cnt q n = 0 ↔ ∀ j, j < n → q j = false := by
  intro n
  induction n with
  | zero => exact ⟨fun _ j h => absurd h (by omega), fun _ => rfl⟩
  | succ n ih =>
    rw [cnt]
    constructor
    · intro h j hj
      by_cases z : j = n
      · subst z
        cases hq : q j
        · rfl
        · rw [hq] at h; simp at h
      · exact ih.mp (by omega) j (by omega)
    · intro h
      rw [ih.mpr (fun j hj => h j (by omega)), h n (by omega)]; rfl
theorem low_bit (x : Int64) (hx : x ≠ 0) : ∃ j, j < 64 ∧ bx x j = true ∧ ∀ k, k < 64 → bx (x &&& (x - 1)) k = (bx x k && decide (k ≠ j)) := by
  obtain ⟨X, hX, rfl⟩ := wb_of x
  have hbx : ∀ k, bx (lN X) k = X.testBit k := fun k => by
    unfold bx; rw [← BitVec.testBit_toNat, wb_tn hX]
  have h0 : X ≠ 0 := fun h => hx (by rw [h]; rfl)
  have hex : ∃ k, X.testBit k = true := by
    rcases Classical.em (∃ k, X.testBit k = true) with h | h
    · exact h
    · exfalso
      apply h0
      apply Nat.eq_of_testBit_eq
      intro i
      cases hb : X.testBit i
      · simp
      · exact absurd ⟨i, hb⟩ h
  obtain ⟨j, hj, hmin⟩ := pk_least (fun k => X.testBit k = true) hex
  have hj64 : j < 64 := by
    rcases Nat.lt_or_ge j 64 with h | h
    · exact h
    · have h2 : X < 2 ^ j := Nat.lt_of_lt_of_le hX (Nat.pow_le_pow_right (by decide) h)
      rw [Nat.testBit_lt_two_pow h2] at hj; exact absurd hj (by decide)
  have hmod : X % 2 ^ j = 0 := by
    apply Nat.eq_of_testBit_eq
    intro i
    rw [Nat.testBit_mod_two_pow]
    by_cases c : i < j
    · have : X.testBit i = false := by
        cases hb : X.testBit i
        · rfl
        · exact absurd hb (hmin i c)
      rw [this]; simp
    · simp [c]
  have hdiv := Nat.div_add_mod X (2 ^ j)
  rw [hmod, Nat.add_zero] at hdiv
  have hodd : X / 2 ^ j % 2 = 1 := by
    rw [Nat.testBit_eq_decide_div_mod_eq] at hj
    simpa using hj
  generalize hY : X / 2 ^ j = Y at hdiv hodd
  have hpos : 0 < 2 ^ j := Nat.pow_pos (by decide)
  have hX1 : X - 1 = 2 ^ j * (Y - 1) + (2 ^ j - 1) := by
    rw [← hdiv]
    obtain ⟨Z, rfl⟩ : ∃ Z, Y = Z + 1 := ⟨Y - 1, by omega⟩
    rw [Nat.mul_add, Nat.add_sub_cancel]
    omega
  have hsub : lN X - (1 : Int64) = lN (X - 1) := lN_sub (b := 1) (by omega)
  have hbx1 : ∀ k, bx (lN (X - 1)) k = (X - 1).testBit k := fun k => by
    unfold bx; rw [← BitVec.testBit_toNat, wb_tn (by omega)]
  refine ⟨j, hj64, by rw [hbx]; exact hj, fun k hk => ?_⟩
  rw [bx_and, hsub, hbx, hbx1, hX1, Nat.testBit_two_pow_mul_add _ (by omega)]
  by_cases c : k < j
  · have : X.testBit k = false := by
      cases hb : X.testBit k
      · rfl
      · exact absurd hb (hmin k c)
    rw [this]; simp
  · rw [if_neg c]
    by_cases e : k = j
    · subst e
      rw [Nat.sub_self, Nat.testBit_zero]
      have : ¬ (Y - 1) % 2 = 1 := by omega
      simp [this]
    · obtain ⟨m, hm⟩ : ∃ m, k - j = m + 1 := ⟨k - j - 1, by omega⟩
      have hk2 : X.testBit k = Y.testBit (m + 1) := by
        rw [← hY, Nat.testBit_div_two_pow]; congr 1; omega
      rw [hm, hk2, Nat.testBit_add_one, Nat.testBit_add_one, show (Y - 1) / 2 = Y / 2 by omega]
      simp [e]
theorem pc_step {x : Int64} (hx : x ≠ 0) : pcx x = pcx (x &&& (x - 1)) + 1 := by
  obtain ⟨j, hj, h1, h2⟩ := low_bit x hx
  exact cnt_add 64 j hj (fun k hk hn => by rw [h2 k hk]; simp [hn]) (by rw [h2 j hj]; simp) h1
theorem ones_loop : ∀ m n c x, pcx x ≤ m → m + 1 ≤ n → L_X8_ones_4 n (nI c) x = some (nI (c + pcx x)) := by
  intro m
  induction m with
  | zero =>
    intro n c x h1 h2
    obtain ⟨n, rfl⟩ : ∃ q, n = q + 1 := ⟨n - 1, by omega⟩
    have hx : x = 0 := by rw [zero_bits]; exact (cnt_zero 64).mp (Nat.le_zero.mp h1)
    rw [L_X8_ones_4, if_pos (by rw [lg_eq]; exact hx), Nat.le_zero.mp h1]
    rfl
  | succ m ih =>
    intro n c x h1 h2
    obtain ⟨n, rfl⟩ : ∃ q, n = q + 1 := ⟨n - 1, by omega⟩
    rw [L_X8_ones_4]
    by_cases hx : x = 0
    · rw [if_pos (by rw [lg_eq]; exact hx), hx]; rfl
    · have := pc_step hx
      rw [if_neg (by rw [lg_eq]; exact hx), nI_one, ih n (c + 1) _ (by omega) (by omega), this]
      congr 2; omega
theorem ones_eq (x : Int64) : f_X8_ones x = some (nI (pcx x)) := by
  unfold f_X8_ones
  have e : L_X8_ones_4 20000 (0 : Int32) x = some (nI (0 + pcx x)) := ones_loop 64 20000 0 x (pcx_le x) (by omega)
  rw [e, Nat.zero_add]; rfl
/-! Long.bitCount: sums of fields, side by side -/
theorem split_and {k a b c d : Nat} (ha : a < 2 ^ k) (hc : c < 2 ^ k) : (a + 2 ^ k * b) &&& (c + 2 ^ k * d) = (a &&& c) + 2 ^ k * (b &&& d) := by
  apply Nat.eq_of_testBit_eq
  intro i
  have h3 : a &&& c < 2 ^ k := Nat.and_lt_two_pow a hc
  rw [Nat.testBit_and, Nat.add_comm a, Nat.add_comm c, Nat.add_comm (a &&& c), Nat.testBit_two_pow_mul_add _ ha, Nat.testBit_two_pow_mul_add _ hc, Nat.testBit_two_pow_mul_add _ h3]
  by_cases h : i < k
  · simp [h]
  · simp [h]
def Pf (w : Nat) : Nat → Nat → Nat
  | 0, _ => 0
  | n + 1, x => (x % 2 ^ w + x / 2 ^ w % 2 ^ w) + 2 ^ (2 * w) * Pf w n (x / 2 ^ (2 * w))
def Mk (w : Nat) : Nat → Nat
  | 0 => 0
  | n + 1 => (2 ^ w - 1) + 2 ^ (2 * w) * Mk w n
def Tt (w : Nat) : Nat → Nat → Nat
  | 0, _ => 0
  | n + 1, x => x % 2 ^ w + Tt w n (x / 2 ^ w)
def Dg (w c : Nat) : Nat → Nat → Prop
  | 0, _ => True
  | n + 1, x => x % 2 ^ w ≤ c ∧ Dg w c n (x / 2 ^ w)
theorem pw2 (w : Nat) : 2 ^ (2 * w) = 2 ^ w * 2 ^ w := by rw [← Nat.pow_add]; congr 1; omega
theorem and_low {x w : Nat} : x &&& (2 ^ w - 1) = x % 2 ^ w := Nat.and_two_pow_sub_one_eq_mod x w
theorem mk_and (w : Nat) : ∀ n x, (x &&& Mk w n) + ((x / 2 ^ w) &&& Mk w n) = Pf w n x := by
  intro n
  induction n with
  | zero => intro x; simp [Mk, Pf]
  | succ n ih =>
    intro x
    have hw : 0 < 2 ^ w := Nat.pow_pos (by decide)
    have hW : 0 < 2 ^ (2 * w) := Nat.pow_pos (by decide)
    have hm : 2 ^ w - 1 < 2 ^ (2 * w) := by
      have := Nat.pow_le_pow_right (show 0 < 2 by decide) (show w ≤ 2 * w by omega)
      omega
    rw [Pf, Mk, ← ih]
    have e1 : x &&& (2 ^ w - 1 + 2 ^ (2 * w) * Mk w n) = x % 2 ^ w + 2 ^ (2 * w) * (x / 2 ^ (2 * w) &&& Mk w n) := by
      have hx := Nat.mod_add_div x (2 ^ (2 * w))
      conv => lhs; rw [← hx]
      rw [split_and (Nat.mod_lt _ hW) hm, and_low]
      congr 1
      rw [pw2]; exact Nat.mod_mul_left_mod x (2 ^ w) (2 ^ w)
    have e2 : (x / 2 ^ w) &&& (2 ^ w - 1 + 2 ^ (2 * w) * Mk w n) = x / 2 ^ w % 2 ^ w + 2 ^ (2 * w) * (x / 2 ^ (2 * w) / 2 ^ w &&& Mk w n) := by
      have hx := Nat.mod_add_div (x / 2 ^ w) (2 ^ (2 * w))
      conv => lhs; rw [← hx]
      rw [split_and (Nat.mod_lt _ hW) hm, and_low]
      congr 1
      · rw [pw2]; exact Nat.mod_mul_left_mod _ (2 ^ w) (2 ^ w)
      · rw [Nat.div_div_eq_div_mul, Nat.div_div_eq_div_mul, Nat.mul_comm (2 ^ w) (2 ^ (2 * w))]
    rw [e1, e2, Nat.mul_add]
    omega
theorem Pf_lt (w : Nat) (hw : 0 < w) (n x : Nat) : Pf w n x < 2 ^ (2 * w * n) := by
  induction n generalizing x with
  | zero => simp [Pf]
  | succ n ih =>
    have h1 := ih (x / 2 ^ (2 * w))
    have h2 : x % 2 ^ w < 2 ^ w := Nat.mod_lt _ (Nat.pow_pos (by decide))
    have h3 : x / 2 ^ w % 2 ^ w < 2 ^ w := Nat.mod_lt _ (Nat.pow_pos (by decide))
    have h4 : 2 * 2 ^ w ≤ 2 ^ (2 * w) := by
      rw [← Nat.pow_succ']
      exact Nat.pow_le_pow_right (by decide) (by omega)
    rw [Pf, show 2 * w * (n + 1) = 2 * w + 2 * w * n by rw [Nat.mul_add]; omega, Nat.pow_add]
    have h5 : Pf w n (x / 2 ^ (2 * w)) + 1 ≤ 2 ^ (2 * w * n) := h1
    have h6 := Nat.mul_le_mul_left (2 ^ (2 * w)) h5
    rw [Nat.mul_add] at h6
    omega
theorem Pf_low {w n x : Nat} (hw : 0 < w) : Pf w (n + 1) x % 2 ^ (2 * w) = x % 2 ^ w + x / 2 ^ w % 2 ^ w ∧ Pf w (n + 1) x / 2 ^ (2 * w) = Pf w n (x / 2 ^ (2 * w)) := by
  have h2 : x % 2 ^ w < 2 ^ w := Nat.mod_lt _ (Nat.pow_pos (by decide))
  have h3 : x / 2 ^ w % 2 ^ w < 2 ^ w := Nat.mod_lt _ (Nat.pow_pos (by decide))
  have h4 : 2 * 2 ^ w ≤ 2 ^ (2 * w) := by
    rw [← Nat.pow_succ']
    exact Nat.pow_le_pow_right (by decide) (by omega)
  have hlt : x % 2 ^ w + x / 2 ^ w % 2 ^ w < 2 ^ (2 * w) := by omega
  rw [Pf]
  exact ⟨by rw [Nat.add_mul_mod_self_left, Nat.mod_eq_of_lt hlt], by rw [Nat.add_mul_div_left _ _ (Nat.pow_pos (by decide)), Nat.div_eq_of_lt hlt, Nat.zero_add]⟩
theorem Tt_Pf (w : Nat) (hw : 0 < w) : ∀ n x, Tt (2 * w) n (Pf w n x) = Tt w (2 * n) x := by
  intro n
  induction n with
  | zero => intro x; rfl
  | succ n ih =>
    intro x
    obtain ⟨h1, h2⟩ := Pf_low (n := n) (x := x) hw
    rw [Tt, h1, h2, ih, show 2 * (n + 1) = 2 * n + 1 + 1 by omega, Tt, Tt, Nat.div_div_eq_div_mul, ← pw2]
    omega
theorem Dg_Pf (w c : Nat) (hw : 0 < w) : ∀ n x, Dg w c (2 * n) x → Dg (2 * w) (2 * c) n (Pf w n x) := by
  intro n
  induction n with
  | zero => intro x _; trivial
  | succ n ih =>
    intro x h
    rw [show 2 * (n + 1) = 2 * n + 1 + 1 by omega, Dg, Dg, Nat.div_div_eq_div_mul, ← pw2] at h
    obtain ⟨h1, h2⟩ := Pf_low (n := n) (x := x) hw
    rw [Dg, h1, h2]
    exact ⟨by omega, ih _ h.2.2⟩
theorem nib_and : ∀ n y, Dg 4 4 (2 * n) y → (y + y / 16) &&& Mk 4 n = Pf 4 n y := by
  intro n
  induction n with
  | zero => intro y _; simp [Mk, Pf]
  | succ n ih =>
    intro y h
    rw [show 2 * (n + 1) = 2 * n + 1 + 1 by omega, Dg, Dg, Nat.div_div_eq_div_mul] at h
    have e16 : (2 : Nat) ^ 4 = 16 := by decide
    have e256 : (2 : Nat) ^ (2 * 4) = 256 := by decide
    rw [e16] at h
    have ihy := ih (y / 256) h.2.2
    rw [Pf, Mk, e16, e256, ← ihy]
    have hn : n = 0 ∨ y / 256 % 16 ≤ 4 := by
      cases n with
      | zero => exact Or.inl rfl
      | succ n =>
        right
        have h3 := h.2.2
        rw [show 2 * (n + 1) = 2 * n + 1 + 1 by omega, Dg, e16] at h3
        exact h3.1
    rcases hn with rfl | hn
    · have : (y + y / 16) &&& (16 - 1 + 256 * Mk 4 0) = (y + y / 16) % 16 := by
        rw [Mk, Nat.mul_zero, Nat.add_zero]; exact and_low (w := 4)
      rw [this, Mk, Nat.and_zero]
      omega
    · have hz : y + y / 16 = (y % 16 + y / 16 % 16 + 16 * (y / 16 % 16 + y / 256 % 16)) + 2 ^ 8 * (y / 256 + y / 256 / 16) := by
        rw [show (2 : Nat) ^ 8 = 256 by decide]; omega
      have hm : (16 - 1 + 256 * Mk 4 n) = 15 + 2 ^ 8 * Mk 4 n := by rw [show (2 : Nat) ^ 8 = 256 by decide]
      rw [hm, hz, split_and (by rw [show (2 : Nat) ^ 8 = 256 by decide]; omega) (by decide), show (15 : Nat) = 2 ^ 4 - 1 by decide, and_low, show (2 : Nat) ^ 8 = 256 by decide, e16]
      omega
theorem Dg_bits : ∀ n x, Dg 1 1 n x := by
  intro n
  induction n with
  | zero => intro x; trivial
  | succ n ih => intro x; rw [Dg]; exact ⟨by omega, ih _⟩
theorem Tt_cnt : ∀ n x, Tt 1 n x = cnt (fun i => x.testBit i) n := by
  have key : ∀ n x, cnt (fun i => x.testBit i) (n + 1) = x % 2 + cnt (fun i => (x / 2).testBit i) n := by
    intro n
    induction n with
    | zero =>
      intro x
      show 0 + (if x.testBit 0 = true then 1 else 0) = x % 2 + 0
      rw [Nat.testBit_zero]
      by_cases c : x % 2 = 1
      · simp [c]
      · simp [c]; omega
    | succ n ih =>
      intro x
      rw [cnt, ih x, cnt, Nat.testBit_add_one]
      omega
  intro n
  induction n with
  | zero => intro x; rfl
  | succ n ih => intro x; rw [key, Tt, ih]
theorem dv {a B k : Nat} (h : a < k) : (a + k * B) / k = B := by rw [Nat.add_mul_div_left _ _ (by omega), Nat.div_eq_of_lt h, Nat.zero_add]
theorem by_split (Z : Nat) : Z = Z % 256 + 256 * (Z / 256) := (Nat.mod_add_div Z 256).symm
theorem bytes_sum1 {Z A1 A2 A3 A4 A5 A6 A7 z0 z1 z2 z3 z4 z5 z6 : Nat} (e0 : Z = z0 + 256 * A1) (e1 : A1 = z1 + 256 * A2) (e2 : A2 = z2 + 256 * A3) (e3 : A3 = z3 + 256 * A4) (e4 : A4 = z4 + 256 * A5) (e5 : A5 = z5 + 256 * A6) (e6 : A6 = z6 + 256 * A7)
    (b0 : z0 ≤ 8) (b1 : z1 ≤ 8) (b2 : z2 ≤ 8) (b3 : z3 ≤ 8) (b4 : z4 ≤ 8) (b5 : z5 ≤ 8) (b6 : z6 ≤ 8) (b7 : A7 ≤ 8) : ((Z + Z / 256) + (Z + Z / 256) / 65536 + ((Z + Z / 256) + (Z + Z / 256) / 65536) / 4294967296) % 128 = z0 + (z1 + (z2 + (z3 + (z4 + (z5 + (z6 + A7)))))) ∧ (Z + Z / 256) + (Z + Z / 256) / 65536 + ((Z + Z / 256) + (Z + Z / 256) / 65536) / 4294967296 < 18446744073709551616 := by
  have d1 : Z / 256 = A1 := by rw [e0]; exact dv (by omega)
  have g1 : Z + A1 = ((z0 + z1) + 256 * (z1 + z2)) + 65536 * (A2 + A3) := by clear e4 e5 e6; omega
  rw [d1, g1]
  have d2 : (((z0 + z1) + 256 * (z1 + z2)) + 65536 * (A2 + A3)) / 65536 = A2 + A3 := dv (by clear g1 d1 e0 e1 e2 e3 e4 e5 e6; omega)
  rw [d2]
  have g2 : ((z0 + z1) + 256 * (z1 + z2)) + 65536 * (A2 + A3) + (A2 + A3) = ((z0 + z1) + 256 * (z1 + z2) + ((z2 + z3) + 256 * (z3 + z4)) + 65536 * ((z2 + z3) + 256 * (z3 + z4) + ((z4 + z5) + 256 * (z5 + z6)))) + 4294967296 * (A4 + A5 + A6 + A7) := by
    clear g1 d1 d2 e0 e1 b0 b1 b2 b3 b4 b5 b6 b7
    subst e6; subst e5; subst e4; subst e3; subst e2
    omega
  rw [g2]
  have d3 : (((z0 + z1) + 256 * (z1 + z2) + ((z2 + z3) + 256 * (z3 + z4)) + 65536 * ((z2 + z3) + 256 * (z3 + z4) + ((z4 + z5) + 256 * (z5 + z6)))) + 4294967296 * (A4 + A5 + A6 + A7)) / 4294967296 = A4 + A5 + A6 + A7 := dv (by clear g1 g2 d1 d2 e0 e1 e2 e3 e4 e5 e6; omega)
  rw [d3]
  clear g1 g2 d1 d2 d3 e0 e1 e2 e3
  subst e6; subst e5; subst e4
  constructor <;> omega
theorem bytes_sum {Z : Nat} (hZ : Dg 8 8 8 Z) (hl : Z < 2 ^ 64) : ((Z + Z / 2 ^ 8) + (Z + Z / 2 ^ 8) / 2 ^ 16 + ((Z + Z / 2 ^ 8) + (Z + Z / 2 ^ 8) / 2 ^ 16) / 2 ^ 32) % 128 = Tt 8 8 Z ∧ (Z + Z / 2 ^ 8) + (Z + Z / 2 ^ 8) / 2 ^ 16 + ((Z + Z / 2 ^ 8) + (Z + Z / 2 ^ 8) / 2 ^ 16) / 2 ^ 32 < 2 ^ 64 := by
  simp only [Dg, Tt, Nat.div_div_eq_div_mul] at hZ ⊢
  obtain ⟨c0, c1, c2, c3, c4, c5, c6, c7, -⟩ := hZ
  have h7 : Z / 2 ^ 8 / 2 ^ 8 / 2 ^ 8 / 2 ^ 8 / 2 ^ 8 / 2 ^ 8 / 2 ^ 8 < 256 := by
    rw [Nat.div_div_eq_div_mul, Nat.div_div_eq_div_mul, Nat.div_div_eq_div_mul, Nat.div_div_eq_div_mul, Nat.div_div_eq_div_mul, Nat.div_div_eq_div_mul]
    exact Nat.div_lt_of_lt_mul hl
  simp only [← Nat.div_div_eq_div_mul] at c1 c2 c3 c4 c5 c6 c7 ⊢
  have c7' : Z / 2 ^ 8 / 2 ^ 8 / 2 ^ 8 / 2 ^ 8 / 2 ^ 8 / 2 ^ 8 / 2 ^ 8 ≤ 8 := by
    have e := Nat.mod_eq_of_lt (show Z / 2 ^ 8 / 2 ^ 8 / 2 ^ 8 / 2 ^ 8 / 2 ^ 8 / 2 ^ 8 / 2 ^ 8 < 2 ^ 8 from h7)
    rw [← e]; exact c7
  have e7 := Nat.mod_eq_of_lt (show Z / 2 ^ 8 / 2 ^ 8 / 2 ^ 8 / 2 ^ 8 / 2 ^ 8 / 2 ^ 8 / 2 ^ 8 < 2 ^ 8 from h7)
  have r := bytes_sum1 (by_split Z) (by_split _) (by_split _) (by_split _) (by_split _) (by_split _) (by_split _) c0 c1 c2 c3 c4 c5 c6 c7'
  refine ⟨?_, r.2⟩
  rw [e7]
  exact r.1
theorem bc_eq (x : Int64) : f_J13_bitCount_95d88 x = some (nI (pcx x)) := by
  obtain ⟨X, hX, rfl⟩ := wb_of x
  have hX' : X < 18446744073709551616 := hX
  have m1 : (6148914691236517205 : Nat) = Mk 1 32 := by decide +kernel
  have m2 : (3689348814741910323 : Nat) = Mk 2 16 := by decide +kernel
  have m3 : (1085102592571150095 : Nat) = Mk 4 8 := by decide +kernel
  have q1 := mk_and 1 32 X
  have a1 : X = (X &&& Mk 1 32) + 2 * ((X / 2 ^ 1) &&& Mk 1 32) := by
    have hT : ∀ n x, x < 2 ^ (2 * n) → x = (x &&& Mk 1 n) + 2 * ((x / 2 ^ 1) &&& Mk 1 n) := by
      intro n
      induction n with
      | zero => intro x hx; simp at hx; simp [hx, Mk]
      | succ n ih =>
        intro x hx
        have hx4 : x / 4 < 2 ^ (2 * n) := by
          rw [show 2 * (n + 1) = 2 * n + 2 by omega, Nat.pow_add] at hx
          exact Nat.div_lt_of_lt_mul (by rw [Nat.mul_comm]; exact hx)
        have i4 := ih (x / 4) hx4
        have e1 : x &&& Mk 1 (n + 1) = x % 2 + 4 * (x / 4 &&& Mk 1 n) := by
          rw [Mk]
          conv => lhs; rw [show x = x % 4 + 2 ^ 2 * (x / 4) by omega]
          rw [show 2 ^ 1 - 1 + 2 ^ (2 * 1) * Mk 1 n = 1 + 2 ^ 2 * Mk 1 n by rfl, split_and (by omega) (by decide), show (1 : Nat) = 2 ^ 1 - 1 by decide, and_low]
          omega
        have e2 : (x / 2 ^ 1) &&& Mk 1 (n + 1) = x / 2 % 2 + 4 * (x / 4 / 2 ^ 1 &&& Mk 1 n) := by
          rw [Mk]
          conv => lhs; rw [show x / 2 ^ 1 = (x / 2) % 4 + 2 ^ 2 * (x / 4 / 2 ^ 1) by omega]
          rw [show 2 ^ 1 - 1 + 2 ^ (2 * 1) * Mk 1 n = 1 + 2 ^ 2 * Mk 1 n by rfl, split_and (by omega) (by decide), show (1 : Nat) = 2 ^ 1 - 1 by decide, and_low]
          omega
        rw [e1, e2]
        omega
    exact hT 32 X hX
  have s1 : lN X - (((lN X).toUInt64 >>> ((1 : Int32).toInt64.toUInt64 &&& Int64.toUInt64 63)).toInt64 &&& (6148914691236517205 : Int64)) = lN (Pf 1 32 X) := by
    have h1 : ((lN X).toUInt64 >>> ((1 : Int32).toInt64.toUInt64 &&& Int64.toUInt64 63)).toInt64 = lN (X / 2 ^ 1) := wb_shr hX (k := 1) (by decide)
    rw [h1, litL 6148914691236517205, m1, g_and (by omega) (by rw [← m1]; decide) rfl, lN_sub (by omega), ← q1]
    congr 1
    omega
  have hP1 : Pf 1 32 X < 18446744073709551616 := Pf_lt 1 (by decide) 32 X
  have s2 : (lN (Pf 1 32 X) &&& (3689348814741910323 : Int64)) + (((lN (Pf 1 32 X)).toUInt64 >>> ((2 : Int32).toInt64.toUInt64 &&& Int64.toUInt64 63)).toInt64 &&& (3689348814741910323 : Int64)) = lN (Pf 2 16 (Pf 1 32 X)) := by
    have h1 : ((lN (Pf 1 32 X)).toUInt64 >>> ((2 : Int32).toInt64.toUInt64 &&& Int64.toUInt64 63)).toInt64 = lN (Pf 1 32 X / 2 ^ 2) := wb_shr hP1 (k := 2) (by decide)
    rw [h1, litL 3689348814741910323, m2, g_and hP1 (by rw [← m2]; decide) rfl, g_and (Nat.lt_of_le_of_lt (Nat.div_le_self _ _) hP1) (by rw [← m2]; decide) rfl, lN_add, mk_and]
  have hP2 : Pf 2 16 (Pf 1 32 X) < 18446744073709551616 := Pf_lt 2 (by decide) 16 _
  have hD2 : Dg 4 4 16 (Pf 2 16 (Pf 1 32 X)) := Dg_Pf 2 2 (by decide) 16 _ (Dg_Pf 1 1 (by decide) 32 _ (Dg_bits 64 X))
  have q3 := nib_and 8 (Pf 2 16 (Pf 1 32 X)) hD2
  have hP3 : Pf 4 8 (Pf 2 16 (Pf 1 32 X)) < 18446744073709551616 := Pf_lt 4 (by decide) 8 _
  have hsmall : Pf 2 16 (Pf 1 32 X) + Pf 2 16 (Pf 1 32 X) / 2 ^ 4 < 18446744073709551616 := by
    have htop : Pf 2 16 (Pf 1 32 X) / 1152921504606846976 ≤ 4 := by
      have h := hD2
      simp only [Dg, Nat.div_div_eq_div_mul] at h
      have h15 := h.2.2.2.2.2.2.2.2.2.2.2.2.2.2.2.1
      have e : (Pf 2 16 (Pf 1 32 X) / 1152921504606846976) % 16 = Pf 2 16 (Pf 1 32 X) / 1152921504606846976 := Nat.mod_eq_of_lt (by omega)
      rw [← e]
      exact h15
    omega
  have s3 : (lN (Pf 2 16 (Pf 1 32 X)) + ((lN (Pf 2 16 (Pf 1 32 X))).toUInt64 >>> ((4 : Int32).toInt64.toUInt64 &&& Int64.toUInt64 63)).toInt64) &&& (1085102592571150095 : Int64) = lN (Pf 4 8 (Pf 2 16 (Pf 1 32 X))) := by
    have h1 : ((lN (Pf 2 16 (Pf 1 32 X))).toUInt64 >>> ((4 : Int32).toInt64.toUInt64 &&& Int64.toUInt64 63)).toInt64 = lN (Pf 2 16 (Pf 1 32 X) / 2 ^ 4) := wb_shr hP2 (k := 4) (by decide)
    rw [h1, lN_add, litL 1085102592571150095, m3]
    exact g_and hsmall (by rw [← m3]; decide) q3
  have hD3 : Dg 8 8 8 (Pf 4 8 (Pf 2 16 (Pf 1 32 X))) := Dg_Pf 4 4 (by decide) 8 _ hD2
  have hT : Tt 8 8 (Pf 4 8 (Pf 2 16 (Pf 1 32 X))) = pcx (lN X) := by
    rw [Tt_Pf 4 (by decide) 8, Tt_Pf 2 (by decide) 16, Tt_Pf 1 (by decide) 32, Tt_cnt]
    refine cnt_congr 64 (fun j _ => ?_)
    unfold bx
    rw [← BitVec.testBit_toNat, wb_tn hX]
  obtain ⟨b1, b2⟩ := bytes_sum hD3 hP3
  unfold f_J13_bitCount_95d88
  rw [s1, s2, s3]
  generalize Pf 4 8 (Pf 2 16 (Pf 1 32 X)) = Z at *
  have b2' : (Z + Z / 2 ^ 8) + (Z + Z / 2 ^ 8) / 2 ^ 16 + ((Z + Z / 2 ^ 8) + (Z + Z / 2 ^ 8) / 2 ^ 16) / 2 ^ 32 < 18446744073709551616 := b2
  have t1 : lN Z + ((lN Z).toUInt64 >>> ((8 : Int32).toInt64.toUInt64 &&& Int64.toUInt64 63)).toInt64 = lN (Z + Z / 2 ^ 8) := by
    have h1 : ((lN Z).toUInt64 >>> ((8 : Int32).toInt64.toUInt64 &&& Int64.toUInt64 63)).toInt64 = lN (Z / 2 ^ 8) := wb_shr hP3 (k := 8) (by decide)
    rw [h1, lN_add]
  rw [t1]
  have t2 : lN (Z + Z / 2 ^ 8) + ((lN (Z + Z / 2 ^ 8)).toUInt64 >>> ((16 : Int32).toInt64.toUInt64 &&& Int64.toUInt64 63)).toInt64 = lN (Z + Z / 2 ^ 8 + (Z + Z / 2 ^ 8) / 2 ^ 16) := by
    have h1 : ((lN (Z + Z / 2 ^ 8)).toUInt64 >>> ((16 : Int32).toInt64.toUInt64 &&& Int64.toUInt64 63)).toInt64 = lN ((Z + Z / 2 ^ 8) / 2 ^ 16) := wb_shr (show _ < 18446744073709551616 by omega) (k := 16) (by decide)
    rw [h1, lN_add]
  rw [t2]
  have t3 : lN (Z + Z / 2 ^ 8 + (Z + Z / 2 ^ 8) / 2 ^ 16) + ((lN (Z + Z / 2 ^ 8 + (Z + Z / 2 ^ 8) / 2 ^ 16)).toUInt64 >>> ((32 : Int32).toInt64.toUInt64 &&& Int64.toUInt64 63)).toInt64 = lN (Z + Z / 2 ^ 8 + (Z + Z / 2 ^ 8) / 2 ^ 16 + (Z + Z / 2 ^ 8 + (Z + Z / 2 ^ 8) / 2 ^ 16) / 2 ^ 32) := by
    have h1 : ((lN (Z + Z / 2 ^ 8 + (Z + Z / 2 ^ 8) / 2 ^ 16)).toUInt64 >>> ((32 : Int32).toInt64.toUInt64 &&& Int64.toUInt64 63)).toInt64 = lN ((Z + Z / 2 ^ 8 + (Z + Z / 2 ^ 8) / 2 ^ 16) / 2 ^ 32) := wb_shr (show _ < 18446744073709551616 by omega) (k := 32) (by decide)
    rw [h1, lN_add]
  rw [t3, lN_i]
  have t4 : ∀ N : Nat, nI N &&& (127 : Int32) = nI (N % 128) := fun N => by
    have := pk_and (nI N) (m := 127) 7 (by decide)
    rw [this]
    congr 1
    show (BitVec.ofNat 32 N).toNat % 2 ^ 7 = N % 128
    rw [BitVec.toNat_ofNat]
    omega
  rw [t4, b1, hT]
theorem count_eq (x : Int64) : f_X7_count x = some (nI (pcx x)) := by
  unfold f_X7_count
  rw [bc_eq]; rfl
