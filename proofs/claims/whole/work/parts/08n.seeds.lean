section Seeds
/-- r is the place of the m-th that q has below N, or -6 -/
def PickAt (q : Nat → Bool) (N m : Nat) (r : Int32) : Prop := (∃ v, v < N ∧ q v = true ∧ cnt q v = m ∧ r = nI v) ∨ (cnt q N ≤ m ∧ r = -6)
theorem cnt_le_of {q : Nat → Bool} : ∀ {a b : Nat}, a ≤ b → cnt q a ≤ cnt q b := by
  intro a b h
  induction b with
  | zero => rw [show a = 0 by omega]; exact Nat.le_refl _
  | succ b ih =>
    by_cases c : a = b + 1
    · rw [c]; exact Nat.le_refl _
    · have := ih (by omega); rw [cnt]; omega
theorem PickAt_un {q : Nat → Bool} {N m : Nat} {r r2 : Int32} (h1 : PickAt q N m r) (h2 : PickAt q N m r2) : r = r2 := by
  have key : ∀ {v w : Nat}, q v = true → cnt q v = m → v < w → m + 1 ≤ cnt q w := fun {v w} a b c => by
    have h := cnt_le_of (q := q) (show v + 1 ≤ w by omega)
    rw [cnt, a, b] at h
    simpa using h
  rcases h1 with ⟨v, a1, a2, a3, rfl⟩ | ⟨a1, rfl⟩ <;> rcases h2 with ⟨w, b1, b2, b3, rfl⟩ | ⟨b1, rfl⟩
  · rcases Nat.lt_trichotomy v w with c | c | c
    · have := key a2 a3 c; omega
    · rw [c]
    · have := key b2 b3 c; omega
  · have := key a2 a3 a1; omega
  · have := key b2 b3 b1; omega
  · rfl
theorem cnt_shift (q : Nat → Bool) (a : Nat) : ∀ n, cnt q (a + n) = cnt q a + cnt (fun i => q (a + i)) n := by
  intro n
  induction n with
  | zero => rfl
  | succ n ih => rw [← Nat.add_assoc, cnt, ih, cnt]; omega
noncomputable def fbB (so st : Nat → Int32) (ns v : Nat) : Bool := @decide (fitB so st ns v) (Classical.propDecidable _)
theorem fbB_iff {so st : Nat → Int32} {ns v : Nat} : fbB so st ns v = true ↔ fitB so st ns v := by unfold fbB; exact @decide_eq_true_iff _ (Classical.propDecidable _)
theorem fit_succ {so st : Nat → Int32} {e v a b : Nat} (ha : a < 50) (hb : b < 50) (h1 : so e = nI a) (h2 : st e = nI b) : fbB so st (e + 1) v = (fbB so st e v && rkB v a b) := by
  apply bool_ext
  rw [Bool.and_eq_true, fbB_iff, fbB_iff, rkB_iff]
  constructor
  · intro h; exact ⟨fun e' he x y hx hy hx5 hy5 => h e' (by omega) x y hx hy hx5 hy5, h e (by omega) a b h1 h2 ha hb⟩
  · intro ⟨h, h3⟩ e' he x y hx hy hx5 hy5
    by_cases z : e' = e
    · subst z
      rw [h1] at hx; rw [h2] at hy
      rw [← nI_inj (by omega) (by omega) hx, ← nI_inj (by omega) (by omega) hy]; exact h3
    · exact h e' (by omega) x y hx hy hx5 hy5
theorem fit_loop {so st : Nat → Int32} {ns v : Nat} (hn : ns ≤ 8) (hv : v < 10000) (h : ∀ e, e < ns → ∃ a b, a < 50 ∧ b < 50 ∧ so e = nI a ∧ st e = nI b) : ∀ n e, e ≤ ns → ns + 1 ≤ e + n → L_X8_isFit_4 n so st (nI ns) (nI v) (b01 (fbB so st e v)) (nI e) = some (b01 (fbB so st ns v)) := by
  intro n
  induction n with
  | zero => intro e h1 h2; omega
  | succ n ih =>
    intro e h1 h2
    rw [L_X8_isFit_4]
    by_cases c : e = ns
    · subst c; rw [if_pos ((nI_leI (by omega) (by omega)).mpr (Nat.le_refl _))]
    · obtain ⟨a, b, ha, hb, e1, e2⟩ := h e (by omega)
      have hih := ih (e + 1) (by omega) (by omega)
      rw [fit_succ ha hb e1 e2] at hih
      rw [if_neg (nI_ge (by omega) (by omega)), nI_one, aget_nI (by omega) (by decide), Option.bind_some, aget_nI (by omega) (by decide), Option.bind_some, e1, e2, mranks_eq hv ha hb, Option.bind_some]
      cases hf : fbB so st e v
      · rw [hf] at hih
        rw [if_pos (show b01 false = 0 from rfl)]
        exact hih
      · rw [hf] at hih
        rw [if_neg (show ¬ b01 true = 0 by decide)]
        cases hr : rkB v a b
        · rw [hr] at hih; rw [if_pos (show b01 false = 0 from rfl)]; exact hih
        · rw [hr] at hih; rw [if_neg (show ¬ b01 true = 0 by decide)]; exact hih
theorem isFit_eq {so st : Nat → Int32} {ns v : Nat} (hn : ns ≤ 8) (hv : v < 10000) (h : ∀ e, e < ns → ∃ a b, a < 50 ∧ b < 50 ∧ so e = nI a ∧ st e = nI b) : f_X8_isFit so st (nI ns) (nI v) = some (b01 (fbB so st ns v)) := by
  have e0 : fbB so st 0 v = true := fbB_iff.mpr (fun e he => absurd he (by omega))
  have hl := fit_loop hn hv h 20000 0 (by omega) (by omega)
  rw [e0] at hl
  have hl' : L_X8_isFit_4 20000 so st (nI ns) (nI v) (1 : Int32) (0 : Int32) = some (b01 (fbB so st ns v)) := hl
  unfold f_X8_isFit
  rw [hl', Option.bind_some]
  unfold bz b01
  cases fbB so st ns v <;> rfl
theorem mseeds_loop {so st : Nat → Int32} {ns : Nat} (hn : ns ≤ 8) (h : ∀ e, e < ns → ∃ a b, a < 50 ∧ b < 50 ∧ so e = nI a ∧ st e = nI b) (i : Int32) : ∀ n v, v ≤ 10000 → 10001 ≤ v + n → (∀ m, m < 2 ^ 31 → i = nI m → cnt (fbB so st ns) v ≤ m) → ∃ r, L_X8_seeds_4 n so st (nI ns) i (nI (cnt (fbB so st ns) v)) (nI v) = some r ∧ (i = -1 → r = nI (cnt (fbB so st ns) 10000)) ∧ (∀ m, m < 2 ^ 31 → i = nI m → PickAt (fbB so st ns) 10000 m r) ∧ (i < 0 → i ≠ -1 → r = -6) := by
  intro n
  induction n with
  | zero => intro v h1 h2; omega
  | succ n ih =>
    intro v h1 h2 hm
    have hcv := cnt_le (fbB so st ns) v
    rw [L_X8_seeds_4]
    by_cases c : v = 10000
    · subst c
      rw [if_pos (by decide)]
      by_cases ci : i = -1
      · rw [if_pos ci]
        exact ⟨_, rfl, fun _ => rfl, fun m hm2 e => absurd (ci.symm.trans e) (fun q => by rw [e32, nI_toInt hm2] at q; have : (-1 : Int32).toInt = -1 := rfl; omega), fun _ q => absurd ci q⟩
      · rw [if_neg ci]
        exact ⟨_, rfl, fun q => absurd q ci, fun m hm2 e => Or.inr ⟨hm m hm2 e, rfl⟩, fun _ _ => rfl⟩
    · have hcs : cnt (fbB so st ns) (v + 1) = cnt (fbB so st ns) v + (if fbB so st ns v = true then 1 else 0) := rfl
      rw [lit32 9999, if_neg (nI_nlt (by omega) (by omega)), isFit_eq hn (by omega) h, Option.bind_some, nI_one]
      cases hf : fbB so st ns v
      · rw [if_pos (show b01 false = 0 from rfl)]
        have := ih (v + 1) (by omega) (by omega)
        rw [hcs, hf] at this
        exact this hm
      · rw [if_neg (show ¬ b01 true = 0 by decide)]
        by_cases ci : nI (cnt (fbB so st ns) v) = i
        · rw [if_pos ci]
          refine ⟨_, rfl, fun q => ?_, fun m hm2 e => ?_, fun q _ => ?_⟩
          · exfalso
            rw [← ci, e32, nI_toInt (by omega)] at q
            have : (-1 : Int32).toInt = -1 := rfl
            omega
          · rw [e] at ci
            exact Or.inl ⟨v, by omega, hf, nI_inj (by omega) hm2 ci, rfl⟩
          · exact absurd q (by rw [← ci]; exact nI_pos (by omega))
        · rw [if_neg ci, nI_one]
          have := ih (v + 1) (by omega) (by omega)
          rw [hcs, hf] at this
          refine this (fun m hm2 e => ?_)
          have h3 := hm m hm2 e
          have h4 : cnt (fbB so st ns) v ≠ m := fun q => ci (by rw [q, e])
          simp
          omega
theorem bit_test (x : Int64) {k : Nat} (hk : k < 64) : (lg_cmp ((x.toUInt64 >>> ((nI k).toInt64.toUInt64 &&& Int64.toUInt64 63)).toInt64 &&& (1 : Int64)) (0 : Int64) = 0) = (bx x k = false) := by
  obtain ⟨X, hX, rfl⟩ := wb_of x
  rw [lg_eq, wb_shr hX hk, litL 1, g_and (Nat.lt_of_le_of_lt (Nat.div_le_self _ _) hX) (by decide) rfl, show (1 : Nat) = 2 ^ 1 - 1 from rfl, and_low]
  have hb : bx (lN X) k = X.testBit k := by unfold bx; rw [← BitVec.testBit_toNat, wb_tn hX]
  rw [hb, Nat.testBit_eq_decide_div_mod_eq]
  have h2 : X / 2 ^ k % 2 ^ 1 = 0 ∨ X / 2 ^ k % 2 ^ 1 = 1 := by omega
  apply propext
  rcases h2 with h2 | h2
  · rw [h2]; exact ⟨fun _ => rfl, fun _ => rfl⟩
  · rw [h2]; exact ⟨fun q => absurd q (by decide), fun q => absurd q (by decide)⟩
theorem pickBit_loop {x : Int64} {a0 : Nat} (ha : a0 < pcx x) : ∀ n k a, k ≤ 64 → 65 ≤ k + n → a + cnt (bx x) k = a0 → ∃ p, p < 64 ∧ bx x p = true ∧ cnt (bx x) p = a0 ∧ L_X3_pickBit_5 n x (nI a) (nI k) = some (nI p) := by
  have h64 := pcx_le x
  intro n
  induction n with
  | zero => intro k a h1 h2; omega
  | succ n ih =>
    intro k a h1 h2 h3
    rw [L_X3_pickBit_5]
    by_cases c : k = 64
    · subst c; unfold pcx at ha; omega
    · have hcs : cnt (bx x) (k + 1) = cnt (bx x) k + (if bx x k = true then 1 else 0) := rfl
      rw [lit32 64, if_neg (nI_ge (by omega) (by omega)), nI_one]
      simp only [bit_test x (show k < 64 by omega)]
      cases hb : bx x k
      · simp only [if_true]
        refine ih (k + 1) a (by omega) (by omega) ?_
        rw [hcs, hb]; simpa using h3
      · simp only [Bool.true_eq_false, if_false]
        by_cases c2 : a = 0
        · subst c2
          rw [if_pos (show nI 0 = (0 : Int32) from rfl)]
          exact ⟨k, by omega, hb, by omega, rfl⟩
        · obtain ⟨a', rfl⟩ : ∃ a', a = a' + 1 := ⟨a - 1, by omega⟩
          rw [if_neg (nI_ne0 (by omega) (by omega)), nI_mone]
          refine ih (k + 1) a' (by omega) (by omega) ?_
          rw [hcs, hb]; simp; omega
/-- the class's bits, a row of words -/
def wq (sds : Nat → Int64) : Nat → Bool := fun v => bx (sds (v / 64)) (v % 64)
theorem wq_word (sds : Nat → Int64) (w : Nat) {i : Nat} (hi : i < 64) : wq sds (64 * w + i) = bx (sds w) i := by
  unfold wq
  rw [show (64 * w + i) / 64 = w by omega, show (64 * w + i) % 64 = i by omega]
theorem wq_cnt (sds : Nat → Int64) (w : Nat) : cnt (wq sds) (64 * (w + 1)) = cnt (wq sds) (64 * w) + pcx (sds w) := by
  rw [show 64 * (w + 1) = 64 * w + 64 by omega, cnt_shift]
  congr 1
  exact cnt_congr 64 (fun i hi => wq_word sds w hi)
theorem count_loop {sds : Nat → Int64} : ∀ n w, w ≤ 157 → 158 ≤ w + n → L_X3_countSeeds_4 n sds (nI (cnt (wq sds) (64 * w))) (nI w) = some (nI (cnt (wq sds) 10048)) := by
  intro n
  induction n with
  | zero => intro w h1 h2; omega
  | succ n ih =>
    intro w h1 h2
    rw [L_X3_countSeeds_4]
    by_cases c : w = 157
    · subst c; rw [if_pos (by decide)]
    · rw [lit32 157, if_neg (nI_ge (by omega) (by omega)), aget_nI (by omega) (by decide), Option.bind_some, bc_eq, Option.bind_some, nI_one, nI_add, ← wq_cnt]
      exact ih (w + 1) (by omega) (by omega)
theorem pick_loop7 {sds : Nat → Int64} {m : Nat} (hm : m < 2 ^ 31) : ∀ n w ah, w ≤ 157 → 158 ≤ w + n → ah + cnt (wq sds) (64 * w) = m → ∃ r, L_X3_pickSeed_11 n sds (nI ah) (nI w) = some r ∧ PickAt (wq sds) 10048 m r := by
  intro n
  induction n with
  | zero => intro w ah h1 h2; omega
  | succ n ih =>
    intro w ah h1 h2 h3
    rw [L_X3_pickSeed_11]
    by_cases c : w = 157
    · subst c; rw [if_pos (by decide)]; exact ⟨_, rfl, Or.inr ⟨by have e : 64 * 157 = 10048 := rfl; rw [e] at h3; omega, rfl⟩⟩
    · have hp := pcx_le (sds w)
      rw [lit32 157, if_neg (nI_ge (by omega) (by omega)), aget_nI (by omega) (by decide), Option.bind_some, bc_eq, Option.bind_some, nI_one]
      by_cases c2 : pcx (sds w) ≤ ah
      · rw [if_pos ((nI_leI (by omega) (by omega)).mpr c2), pk_sub c2]
        refine ih (w + 1) _ (by omega) (by omega) ?_
        rw [wq_cnt]; omega
      · rw [if_neg (fun q => c2 ((nI_leI (by omega) (by omega)).mp q)), Option.bind_some]
        obtain ⟨p, p1, p2, p3, e⟩ := pickBit_loop (x := sds w) (a0 := ah) (by omega) 20000 0 ah (by omega) (by omega) rfl
        have e' : f_X3_pickBit (sds w) (nI ah) = some (nI p) := e
        rw [e', Option.bind_some, lit32 64, pk_mul, nI_add]
        refine ⟨_, rfl, Or.inl ⟨64 * w + p, by omega, by rw [wq_word _ _ p1]; exact p2, ?_, rfl⟩⟩
        rw [cnt_shift, cnt_congr p (fun i hi => wq_word sds w (by omega)), p3]
        omega
theorem seeds_eq {cs ms : Int32} {sds : Nat → Int64} {so st : Nat → Int32} (h : SgtR cs sds ms so st) (v : Int32) : ∃ r, f_X7_seeds sds v = some r ∧ f_X8_seeds so st ms v = some r := by
  obtain ⟨ns, hn, rfl, rfl, h1, h2⟩ := h
  have hq : ∀ x, x < 10000 → wq sds x = fbB so st ns x := fun x hx => by
    apply bool_ext
    rw [fbB_iff]
    unfold wq
    rw [h2 (x / 64) (by omega) (x % 64) (by omega), show 64 * (x / 64) + x % 64 = x by omega]
    exact ⟨fun q => q.2, fun q => ⟨hx, q⟩⟩
  have hz : ∀ x, 10000 ≤ x → x < 10048 → wq sds x = false := fun x hx hx2 => by
    cases hb : wq sds x
    · rfl
    · unfold wq at hb
      rw [h2 (x / 64) (by omega) (x % 64) (by omega), show 64 * (x / 64) + x % 64 = x by omega] at hb
      omega
  have hcnt : cnt (wq sds) 10048 = cnt (fbB so st ns) 10000 := cnt_cut 10048 (by omega) hz hq
  obtain ⟨r, e, g1, g2, g3⟩ := mseeds_loop hn h1 v 20000 0 (by omega) (by omega) (fun m _ _ => Nat.zero_le _)
  have e' : f_X8_seeds so st (nI ns) v = some r := e
  refine ⟨r, ?_, e'⟩
  unfold f_X7_seeds
  by_cases c : v = -1
  · rw [if_pos c, g1 c]
    have e2 : L_X3_countSeeds_4 20000 sds (0 : Int32) (0 : Int32) = some (nI (cnt (wq sds) 10048)) := count_loop 20000 0 (by omega) (by omega)
    unfold f_X3_countSeeds
    rw [e2, hcnt]; rfl
  · rw [if_neg c]
    unfold f_X3_pickSeed
    by_cases c2 : v < 0
    · have : ¬ (0 : Int32) ≤ v := by rw [le32]; rw [l32] at c2; omega
      rw [if_neg this, g3 c2 c]; rfl
    · obtain ⟨m, hm, rfl⟩ := nI_of c2
      obtain ⟨r2, e2, hP⟩ := pick_loop7 (sds := sds) hm 20000 0 m (by omega) (by omega) rfl
      have e2' : L_X3_pickSeed_11 20000 sds (nI m) (0 : Int32) = some r2 := e2
      rw [if_pos (nI_pos' hm), e2', Option.bind_some]
      congr 1
      refine PickAt_un hP ?_
      rcases g2 m hm rfl with ⟨x, a1, a2, a3, a4⟩ | ⟨a1, a2⟩
      · exact Or.inl ⟨x, by omega, by rw [hq x a1]; exact a2, by rw [cnt_congr x (fun j hj => hq j (by omega))]; exact a3, a4⟩
      · exact Or.inr ⟨by rw [hcnt]; exact a1, a2⟩
end Seeds
