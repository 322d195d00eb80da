/-! the reference's own walks over a set -/
def MR (is : Nat → Int32) (g : Nat) (p : Nat → Bool) : Prop := ∀ k, k < 50 → is (50 * g + k) = b01 (p k)
def cnt (q : Nat → Bool) : Nat → Nat
  | 0 => 0
  | n + 1 => cnt q n + (if q n then 1 else 0)
theorem cnt_le (q : Nat → Bool) : ∀ n, cnt q n ≤ n := by
  intro n
  induction n with
  | zero => exact Nat.le_refl _
  | succ n ih => unfold cnt; split <;> omega
theorem cnt_congr {q r : Nat → Bool} : ∀ n, (∀ j, j < n → q j = r j) → cnt q n = cnt r n := by
  intro n
  induction n with
  | zero => intro _; rfl
  | succ n ih => intro h; rw [cnt, cnt, ih (fun j hj => h j (by omega)), h n (by omega)]
theorem cnt_mono {q r : Nat → Bool} : ∀ n, (∀ j, j < n → q j = true → r j = true) → cnt q n ≤ cnt r n := by
  intro n
  induction n with
  | zero => intro _; exact Nat.le_refl _
  | succ n ih =>
    intro h
    have h1 := ih (fun j hj => h j (by omega))
    have h2 := h n (by omega)
    unfold cnt
    cases hq : q n
    · split <;> simp_all <;> omega
    · rw [h2 hq]; simp; omega
theorem cnt_lt {q r : Nat → Bool} : ∀ n i, i < n → (∀ j, j < n → q j = true → r j = true) → q i = false → r i = true → cnt q n < cnt r n := by
  intro n
  induction n with
  | zero => intro i hi; omega
  | succ n ih =>
    intro i hi h h1 h2
    unfold cnt
    by_cases z : i = n
    · subst z
      have := cnt_mono i (fun j hj => h j (by omega))
      rw [h1, h2]; simp; omega
    · have h3 := ih i (by omega) (fun j hj => h j (by omega)) h1 h2
      have h4 := h n (by omega)
      cases hq : q n
      · simp; split <;> omega
      · rw [h4 hq]; simp; omega
def im (a : Nat) : Int32 := nI a - 1
theorem im_s (a : Nat) : im (a + 1) = nI a := nI_pred a
theorem im_toInt {a : Nat} (h : a < 2 ^ 30) : (im a).toInt = (a : Int) - 1 := pk_sub_toInt (a := a) (b := 1) h (by decide)
theorem im_lt {a b : Nat} (ha : a < 2 ^ 30) (hb : b < 2 ^ 30) : (im a < nI b) = (a ≤ b) := by
  apply propext; rw [Int32.lt_iff_toInt_lt, im_toInt ha, nI_toInt (by omega)]; omega
theorem im_one (a : Nat) : im a + (1 : Int32) = nI a := by
  unfold im; rw [Int32.sub_add_cancel]
section Model
variable {s : Nat} {p : Nat → Bool} {is : Nat → Int32} {g : Nat}
theorem has_eq (hM : MR is g p) (hg : g < 4) {k : Nat} (hk : k < 50) : f_X8_has is (nI g) (nI k) = some (b01 (p k)) := by
  unfold f_X8_has
  rw [lit32 50, pk_mul, nI_add, aget_nI (by omega) (by decide), Option.bind_some, hM k hk]
  unfold b01
  cases p k <;> rfl
theorem many_loop (hM : MR is g p) (hg : g < 4) : ∀ n k, k ≤ 50 → 51 ≤ k + n → L_X8_many_4 n is (nI g) (nI (cnt p k)) (nI k) = some (nI (cnt p 50)) := by
  intro n
  induction n with
  | zero => intro k h1 h2; omega
  | succ n ih =>
    intro k h1 h2
    rw [L_X8_many_4]
    by_cases c : k = 50
    · subst c; rw [if_pos (by decide)]
    · rw [lit32 50, if_neg (nI_ge (by omega) (by omega)), pk_mul, nI_add, aget_nI (by omega) (by decide), Option.bind_some, hM k (by omega), nI_one]
      have e : nI (cnt p k) + b01 (p k) = nI (cnt p (k + 1)) := by
        unfold b01
        rw [cnt]
        cases p k
        · show nI (cnt p k) + nI 0 = _; rw [nI_add]; rfl
        · show nI (cnt p k) + nI 1 = _; rw [nI_add]; rfl
      rw [e]
      exact ih (k + 1) (by omega) (by omega)
theorem many_eq (hM : MR is g p) (hg : g < 4) : f_X8_many is (nI g) = some (nI (cnt p 50)) := by
  unfold f_X8_many
  have := many_loop hM hg 20000 0 (by omega) (by omega)
  have e : L_X8_many_4 20000 is (nI g) (0 : Int32) (0 : Int32) = some (nI (cnt p 50)) := this
  rw [e]; rfl
theorem below_loop (hM : MR is g p) (hg : g < 4) (hs : s < 10000) {j lo : Nat} (hj : j < 50) (hl : lo ≤ j) : ∀ n a, a ≤ j → lo ≤ a → a + 1 ≤ n → (∀ i, a ≤ i → i < j → p i = true → rk s j i) → ∃ a', L_X8_below_5 n (nI s) is (nI g) (nI j) (nI lo) (im a) = some (im a') ∧ La s p lo j a' := by
  intro n
  induction n with
  | zero => intro a h1 h2 h3; omega
  | succ n ih =>
    intro a h1 h2 h3 h
    rw [L_X8_below_5]
    by_cases c : a = lo
    · subst c
      refine ⟨a, ?_, Nat.le_refl _, h1, h, Or.inl rfl⟩
      rw [if_pos]; rw [im_lt (by omega) (by omega)]; exact Nat.le_refl _
    · obtain ⟨b, rfl⟩ : ∃ b, a = b + 1 := ⟨a - 1, by omega⟩
      have hn : ¬ im (b + 1) < nI lo := by rw [im_lt (by omega) (by omega)]; omega
      have e2 : nI b + (-1 : Int32) = im b := by
        cases b with
        | zero => rfl
        | succ b => rw [nI_mone, im_s]
      rw [if_neg hn, im_s, has_eq hM hg (by omega), Option.bind_some, e2, mranks2_eq hs (by omega) hj, Option.bind_some]
      by_cases q : p b = true ∧ rk s b j
      · refine ⟨b + 1, ?_, h2, h1, h, Or.inr ⟨by omega, q.1, q.2⟩⟩
        rw [q.1, rkB_iff.mpr q.2, im_s]; rfl
      · have hh : ∀ i, b ≤ i → i < j → p i = true → rk s j i := fun i i1 i2 i3 => by
          by_cases z : i = b
          · subst z; exact (rk_tot (by omega)).resolve_left (fun w => q ⟨i3, w⟩)
          · exact h i (by omega) i2 i3
        obtain ⟨a', e, w⟩ := ih b (by omega) (by omega) (by omega) hh
        refine ⟨a', ?_, w⟩
        cases hp : p b
        · rw [if_pos (show b01 false = 0 from rfl)]; exact e
        · rw [if_neg (show ¬ b01 true = 0 by decide)]
          have hr : rkB s b j = false := by
            cases hr : rkB s b j
            · rfl
            · exact absurd ⟨hp, rkB_iff.mp hr⟩ q
          rw [hr, if_pos (show b01 false = 0 from rfl)]; exact e
theorem below_eq (hM : MR is g p) (hg : g < 4) (hs : s < 10000) {j lo : Nat} (hj : j < 50) (hl : lo ≤ j) : ∃ a, f_X8_below (nI s) is (nI g) (nI j) (nI lo) = some (im a) ∧ La s p lo j a := by
  obtain ⟨a, e, h⟩ := below_loop hM hg hs hj hl 20000 j (Nat.le_refl _) hl (by omega) (fun i h1 h2 => absurd h2 (by omega))
  refine ⟨a, ?_, h⟩
  unfold f_X8_below
  have e' : L_X8_below_5 20000 (nI s) is (nI g) (nI j) (nI lo) (nI j - (1 : Int32)) = some (im a) := e
  rw [e']; rfl
theorem beyond_loop (hM : MR is g p) (hg : g < 4) (hs : s < 10000) {j hi : Nat} (hj : j < hi) (hh : hi ≤ 50) : ∀ n b, j < b → b ≤ hi → hi + 1 ≤ b + n → (∀ i, j < i → i < b → p i = true → rk s j i) → ∃ b', L_X8_beyond_5 n (nI s) is (nI g) (nI j) (im hi) (nI b) = some (nI b') ∧ Rb s p hi j b' := by
  intro n
  induction n with
  | zero => intro b h1 h2 h3; omega
  | succ n ih =>
    intro b h1 h2 h3 h
    rw [L_X8_beyond_5]
    by_cases c : b = hi
    · subst c
      refine ⟨b, ?_, h1, Nat.le_refl _, h, Or.inl rfl⟩
      rw [if_pos]; rw [im_lt (by omega) (by omega)]; exact Nat.le_refl _
    · have hn : ¬ im hi < nI b := by rw [im_lt (by omega) (by omega)]; omega
      rw [if_neg hn, has_eq hM hg (by omega), Option.bind_some, nI_one, mranks2_eq hs (by omega) (by omega), Option.bind_some]
      by_cases q : p b = true ∧ rk s b j
      · refine ⟨b, ?_, h1, h2, h, Or.inr ⟨by omega, q.1, q.2⟩⟩
        rw [q.1, rkB_iff.mpr q.2]; rfl
      · have hh2 : ∀ i, j < i → i < b + 1 → p i = true → rk s j i := fun i i1 i2 i3 => by
          by_cases z : i = b
          · subst z; exact (rk_tot (by omega)).resolve_right (fun w => q ⟨i3, w⟩)
          · exact h i i1 (by omega) i3
        obtain ⟨b', e, w⟩ := ih (b + 1) (by omega) (by omega) (by omega) hh2
        refine ⟨b', ?_, w⟩
        cases hp : p b
        · rw [if_pos (show b01 false = 0 from rfl)]; exact e
        · rw [if_neg (show ¬ b01 true = 0 by decide)]
          have hr : rkB s b j = false := by
            cases hr : rkB s b j
            · rfl
            · exact absurd ⟨hp, rkB_iff.mp hr⟩ q
          rw [hr, if_pos (show b01 false = 0 from rfl)]; exact e
theorem beyond_eq (hM : MR is g p) (hg : g < 4) (hs : s < 10000) {j hi : Nat} (hj : j < hi) (hh : hi ≤ 50) : ∃ b, f_X8_beyond (nI s) is (nI g) (nI j) (im hi) = some (nI b) ∧ Rb s p hi j b := by
  obtain ⟨b, e, h⟩ := beyond_loop hM hg hs hj hh 20000 (j + 1) (by omega) (by omega) (by omega) (fun i h1 h2 => absurd h2 (by omega))
  refine ⟨b, ?_, h⟩
  unfold f_X8_beyond
  rw [nI_one, e]; rfl
theorem root_loop (hM : MR is g p) (hg : g < 4) (hs : s < 10000) {lo hi : Nat} (hh : hi ≤ 50) : ∀ n k e, lo ≤ k → (k ≤ hi ∨ k = lo) → hi + 1 ≤ k + n → 1 ≤ n → RV s p lo k e → k < 2 ^ 20 → ∃ e', L_X8_rootOf_7 n (nI s) is (nI g) (im hi) e (nI k) = some e' ∧ RV s p lo hi e' := by
  intro n
  induction n with
  | zero => intro k e h1 h2 h3 h4; omega
  | succ n ih =>
    intro k e h1 h2 h3 h4 hV hk20
    rw [L_X8_rootOf_7]
    by_cases c : hi ≤ k
    · refine ⟨e, by rw [if_pos]; rw [im_lt (by omega) (by omega)]; exact c, ?_⟩
      rcases h2 with h2 | h2
      · rw [show hi = k by omega]; exact hV
      · subst h2
        rcases hV with ⟨_, e1⟩ | ⟨r, hr, _⟩
        · exact Or.inl ⟨NoK.none c, e1⟩
        · have := hr.1; have := hr.2.1; omega
    · have hn : ¬ im hi < nI k := by rw [im_lt (by omega) (by omega)]; omega
      rw [if_neg hn, has_eq hM hg (by omega), Option.bind_some, nI_one]
      by_cases hp : p k = true
      · rw [hp, if_neg (show ¬ b01 true = 0 by decide)]
        rcases hV with ⟨hN, rfl⟩ | ⟨r, hr, rfl⟩
        · rw [if_pos neg6]
          exact ih (k + 1) (nI k) (by omega) (by omega) (by omega) (by omega) (Or.inr ⟨k, ⟨h1, by omega, hp, fun j a b q f => absurd q (by rw [hN j a (by omega)]; decide)⟩, rfl⟩) (by omega)
        · have hr50 := hr.2.1
          rw [if_neg (nI_pos (by omega)), mranks2_eq hs (by omega) (by omega), Option.bind_some]
          cases hk : rkB s k r
          · rw [if_pos (show b01 false = 0 from rfl)]
            have : rk s r k := (rk_tot (by omega)).resolve_right (fun w => by rw [rkB_iff.mpr w] at hk; exact absurd hk (by decide))
            exact ih (k + 1) (nI r) (by omega) (by omega) (by omega) (by omega) (Or.inr ⟨r, IsR_rk hr this, rfl⟩) (by omega)
          · rw [if_neg (show ¬ b01 true = 0 by decide)]
            have hkr := rkB_iff.mp hk
            exact ih (k + 1) (nI k) (by omega) (by omega) (by omega) (by omega) (Or.inr ⟨k, ⟨h1, by omega, hp, fun j a b q f => by
              by_cases z : j = r
              · rw [z]; exact hkr
              · exact rk_tr hkr (hr.2.2.2 j a (by omega) q z)⟩, rfl⟩) (by omega)
      · have hp' : p k = false := by simpa using hp
        rw [hp', if_pos (show b01 false = 0 from rfl)]
        exact ih (k + 1) e (by omega) (by omega) (by omega) (by omega) (RV_no hV hp') (by omega)
theorem rootOf_eq (hM : MR is g p) (hg : g < 4) (hs : s < 10000) {lo hi : Nat} (hh : hi ≤ 50) (hl : lo ≤ 51) : ∃ e, f_X8_rootOf (nI s) is (nI g) (nI lo) (im hi) = some e ∧ RV s p lo hi e := by
  obtain ⟨e, h1, h2⟩ := root_loop hM hg hs (lo := lo) hh 20000 lo (-6) (Nat.le_refl _) (Or.inr rfl) (by omega) (by omega) (Or.inl ⟨NoK.none (Nat.le_refl _), rfl⟩) (by omega)
  refine ⟨e, ?_, h2⟩
  unfold f_X8_rootOf
  rw [h1]; rfl
theorem tree_loop (hM : MR is g p) (hg : g < 4) {a b : Nat} (hb : b ≤ 50) : ∀ n e x, a ≤ e → e ≤ b → b + 1 ≤ e + n → Bits x (rs p a e) → ∃ x', L_X8_treeOf_23 n is (nI g) x (nI b) (nI e) = some x' ∧ Bits x' (rs p a b) := by
  intro n
  induction n with
  | zero => intro e x h1 h2 h3; omega
  | succ n ih =>
    intro e x h1 h2 h3 hx
    rw [L_X8_treeOf_23]
    by_cases c : e = b
    · subst c
      exact ⟨x, by rw [if_pos ((nI_leI (by omega) (by omega)).mpr (Nat.le_refl _))], hx⟩
    · rw [if_neg (nI_ge (by omega) (by omega)), has_eq hM hg (by omega), Option.bind_some, nI_one]
      have key : ∀ y, (∀ k, k < 64 → bx y k = (decide (k = e) && p e)) → Bits (x ||| y) (rs p a (e + 1)) := by
        intro y hy k hk
        rw [bx_or, hx k hk, hy k hk]
        by_cases z : k = e
        · subst z; rw [rs_f (by omega), rs_t h1 (by omega)]; simp
        · by_cases w : a ≤ k ∧ k < e
          · rw [rs_t w.1 w.2, rs_t w.1 (by omega)]; simp [z]
          · rw [rs_f (by omega), rs_f (by omega)]; simp [z]
      cases hp : p e
      · rw [if_pos (show b01 false = 0 from rfl)]
        exact ih (e + 1) _ (by omega) (by omega) (by omega) (key 0 (fun k hk => by rw [bx_0, hp]; simp))
      · rw [if_neg (show ¬ b01 true = 0 by decide)]
        exact ih (e + 1) _ (by omega) (by omega) (by omega) (key (bitv e) (fun k hk => by rw [bx_bit (by omega) hk, hp]; simp))
theorem treeOf_eq (hM : MR is g p) (hg : g < 4) (hs : s < 10000) {j : Nat} (hj : j < 50) : ∃ x a b, f_X8_treeOf (nI s) is (nI g) (nI j) = some x ∧ La s p 0 j a ∧ Rb s p 50 j b ∧ Bits x (rs p a b) := by
  obtain ⟨b, e1, hb⟩ := beyond_eq hM hg hs (j := j) (hi := 50) (by omega) (by omega)
  obtain ⟨a, e2, ha⟩ := below_eq hM hg hs (j := j) (lo := 0) hj (by omega)
  have := hb.1
  have := hb.2.1
  have := ha.2.1
  obtain ⟨x, e3, hx⟩ := tree_loop hM hg (a := a) (b := b) (by omega) 20000 a 0 (Nat.le_refl _) (by omega) (by omega) (fun k _ => by rw [bx_0, rs_f (by omega)])
  refine ⟨x, a, b, ?_, ha, hb, hx⟩
  unfold f_X8_treeOf
  have e1' : f_X8_beyond (nI s) is (nI g) (nI j) (49 : Int32) = some (nI b) := e1
  have e2' : f_X8_below (nI s) is (nI g) (nI j) (0 : Int32) = some (im a) := e2
  rw [e1', Option.bind_some, e2', Option.bind_some, im_one, e3]
  rfl
end Model
