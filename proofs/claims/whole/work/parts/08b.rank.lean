/-! ranks and parts of a set -/
section Rank
variable {s : Nat} {p : Nat → Bool}
theorem rk_irr (a : Nat) : ¬ rk s a a := by unfold rk; omega
theorem rk_tr {a b c : Nat} (h1 : rk s a b) (h2 : rk s b c) : rk s a c := by unfold rk at *; omega
theorem rk_tot {a b : Nat} (h : a ≠ b) : rk s a b ∨ rk s b a := by unfold rk; omega
theorem rk_as {a b : Nat} (h : rk s a b) : ¬ rk s b a := by unfold rk at *; omega
theorem rk_ne {a b : Nat} (h : rk s a b) : a ≠ b := fun e => rk_irr (s := s) a (by rw [← e] at h; exact h)
def NoK (p : Nat → Bool) (lo hi : Nat) : Prop := ∀ j, lo ≤ j → j < hi → p j = false
def IsR (s : Nat) (p : Nat → Bool) (lo hi r : Nat) : Prop := lo ≤ r ∧ r < hi ∧ p r = true ∧ ∀ j, lo ≤ j → j < hi → p j = true → j ≠ r → rk s r j
theorem NoK.none {lo hi : Nat} (h : hi ≤ lo) : NoK p lo hi := fun j h1 h2 => absurd h2 (by omega)
theorem root_ex (s : Nat) (p : Nat → Bool) (lo : Nat) : ∀ n, NoK p lo (lo + n) ∨ ∃ r, IsR s p lo (lo + n) r := by
  intro n
  induction n with
  | zero => exact Or.inl (NoK.none (by omega))
  | succ n ih =>
    by_cases c : p (lo + n) = true
    · right
      rcases ih with h | ⟨r, h1, h2, h3, h4⟩
      · exact ⟨lo + n, by omega, by omega, c, fun j a b e f => absurd e (by rw [h j a (by omega)]; decide)⟩
      · by_cases q : rk s r (lo + n)
        · exact ⟨r, h1, by omega, h3, fun j a b e f => by
            by_cases z : j = lo + n
            · rw [z]; exact q
            · exact h4 j a (by omega) e f⟩
        · have q2 : rk s (lo + n) r := (rk_tot (by omega)).resolve_left q
          exact ⟨lo + n, by omega, by omega, c, fun j a b e f => by
            by_cases z : j = r
            · rw [z]; exact q2
            · exact rk_tr q2 (h4 j a (by omega) e z)⟩
    · have c' : p (lo + n) = false := by simpa using c
      rcases ih with h | ⟨r, h1, h2, h3, h4⟩
      · left
        intro j a b
        by_cases z : j = lo + n
        · rw [z]; exact c'
        · exact h j a (by omega)
      · right
        exact ⟨r, h1, by omega, h3, fun j a b e f => h4 j a (by
          by_cases z : j = lo + n
          · rw [z, c'] at e; exact absurd e (by decide)
          · omega) e f⟩
theorem root_ex' (s : Nat) (p : Nat → Bool) (lo hi : Nat) : NoK p lo hi ∨ ∃ r, IsR s p lo hi r := by
  by_cases h : lo ≤ hi
  · have := root_ex s p lo (hi - lo)
    rwa [show lo + (hi - lo) = hi by omega] at this
  · exact Or.inl (NoK.none (by omega))
theorem root_un {lo hi a b : Nat} (h1 : IsR s p lo hi a) (h2 : IsR s p lo hi b) : a = b := by
  by_cases e : a = b
  · exact e
  · exact absurd (h2.2.2.2 a h1.1 h1.2.1 h1.2.2.1 e) (rk_as (h1.2.2.2 b h2.1 h2.2.1 h2.2.2.1 (Ne.symm e)))
theorem root_no {lo hi a : Nat} (h1 : NoK p lo hi) (h2 : IsR s p lo hi a) : False := by
  have := h1 a h2.1 h2.2.1
  rw [h2.2.2.1] at this
  exact absurd this (by decide)
/-- e tells the root of the keys from lo up to hi, or -6 -/
def RV (s : Nat) (p : Nat → Bool) (lo hi : Nat) (e : Int32) : Prop := (NoK p lo hi ∧ e = -6) ∨ ∃ r, IsR s p lo hi r ∧ e = nI r
theorem RV_un {lo hi : Nat} {a b : Int32} (h1 : RV s p lo hi a) (h2 : RV s p lo hi b) : a = b := by
  rcases h1 with ⟨h1, rfl⟩ | ⟨r, h1, rfl⟩
  · rcases h2 with ⟨h2, rfl⟩ | ⟨r2, h2, rfl⟩
    · rfl
    · exact absurd h2 (fun h => root_no h1 h)
  · rcases h2 with ⟨h2, rfl⟩ | ⟨r2, h2, rfl⟩
    · exact absurd h1 (fun h => root_no h2 h)
    · rw [root_un h1 h2]
/-- what bounds the tree of key j to the left, to the right -/
def La (s : Nat) (p : Nat → Bool) (lo j a : Nat) : Prop := lo ≤ a ∧ a ≤ j ∧ (∀ i, a ≤ i → i < j → p i = true → rk s j i) ∧ (a = lo ∨ (lo < a ∧ p (a - 1) = true ∧ rk s (a - 1) j))
def Rb (s : Nat) (p : Nat → Bool) (hi j b : Nat) : Prop := j < b ∧ b ≤ hi ∧ (∀ i, j < i → i < b → p i = true → rk s j i) ∧ (b = hi ∨ (b < hi ∧ p b = true ∧ rk s b j))
def Seg (s : Nat) (p : Nat → Bool) (lo hi j a b : Nat) : Prop := p j = true ∧ La s p lo j a ∧ Rb s p hi j b
theorem La_un {lo j a b : Nat} (h1 : La s p lo j a) (h2 : La s p lo j b) : a = b := by
  obtain ⟨a1, a2, a3, a4⟩ := h1
  obtain ⟨b1, b2, b3, b4⟩ := h2
  rcases Nat.lt_trichotomy a b with h | h | h
  · rcases b4 with e | ⟨e1, e2, e3⟩
    · omega
    · exact absurd e3 (rk_as (a3 (b - 1) (by omega) (by omega) e2))
  · exact h
  · rcases a4 with e | ⟨e1, e2, e3⟩
    · omega
    · exact absurd e3 (rk_as (b3 (a - 1) (by omega) (by omega) e2))
theorem Rb_un {hi j a b : Nat} (h1 : Rb s p hi j a) (h2 : Rb s p hi j b) : a = b := by
  obtain ⟨a1, a2, a3, a4⟩ := h1
  obtain ⟨b1, b2, b3, b4⟩ := h2
  rcases Nat.lt_trichotomy a b with h | h | h
  · rcases a4 with e | ⟨e1, e2, e3⟩
    · omega
    · exact absurd e3 (rk_as (b3 a (by omega) h e2))
  · exact h
  · rcases b4 with e | ⟨e1, e2, e3⟩
    · omega
    · exact absurd e3 (rk_as (a3 b (by omega) h e2))
theorem La_ex (s : Nat) (p : Nat → Bool) (lo : Nat) {j : Nat} (hj : lo ≤ j) : ∃ a, La s p lo j a := by
  obtain ⟨n, rfl⟩ : ∃ n, j = lo + n := ⟨j - lo, by omega⟩
  suffices h : ∀ m, m ≤ n → (∀ i, lo + m ≤ i → i < lo + n → p i = true → rk s (lo + n) i) → ∃ a, La s p lo (lo + n) a from h n (Nat.le_refl n) (fun i h1 h2 => absurd h2 (by omega))
  intro m
  induction m with
  | zero => intro _ h; exact ⟨lo, Nat.le_refl _, by omega, h, Or.inl rfl⟩
  | succ m ih =>
    intro hm h
    by_cases c : p (lo + m) = true ∧ rk s (lo + m) (lo + n)
    · exact ⟨lo + (m + 1), by omega, by omega, h, Or.inr ⟨by omega, c.1, c.2⟩⟩
    · refine ih (by omega) (fun i h1 h2 h3 => ?_)
      by_cases z : i = lo + m
      · subst z
        exact (rk_tot (by omega)).resolve_left (fun q => c ⟨h3, q⟩)
      · exact h i (by omega) h2 h3
theorem Rb_ex (s : Nat) (p : Nat → Bool) {hi j : Nat} (hj : j < hi) : ∃ b, Rb s p hi j b := by
  obtain ⟨n, rfl⟩ : ∃ n, hi = j + 1 + n := ⟨hi - j - 1, by omega⟩
  suffices h : ∀ m q, q + m = n → (∀ i, j < i → i < j + 1 + q → p i = true → rk s j i) → ∃ b, Rb s p (j + 1 + n) j b from h n 0 (by omega) (fun i h1 h2 => absurd h2 (by omega))
  intro m
  induction m with
  | zero => intro q hq h; exact ⟨j + 1 + q, by omega, by omega, h, Or.inl (by omega)⟩
  | succ m ih =>
    intro q hq h
    by_cases c : p (j + 1 + q) = true ∧ rk s (j + 1 + q) j
    · exact ⟨j + 1 + q, by omega, by omega, h, Or.inr ⟨by omega, c.1, c.2⟩⟩
    · refine ih (q + 1) (by omega) (fun i h1 h2 h3 => ?_)
      by_cases z : i = j + 1 + q
      · subst z
        exact (rk_tot (by omega)).resolve_right (fun q => c ⟨h3, q⟩)
      · exact h i h1 (by omega) h3
theorem Seg_ex (s : Nat) {lo hi j : Nat} (h1 : lo ≤ j) (h2 : j < hi) (h3 : p j = true) : ∃ a b, Seg s p lo hi j a b := by
  obtain ⟨a, ha⟩ := La_ex s p lo h1
  obtain ⟨b, hb⟩ := Rb_ex s p h2
  exact ⟨a, b, h3, ha, hb⟩
theorem Seg.root {lo hi j a b : Nat} (h : Seg s p lo hi j a b) : IsR s p a b j := by
  obtain ⟨h0, ⟨a1, a2, a3, a4⟩, ⟨b1, b2, b3, b4⟩⟩ := h
  refine ⟨a2, b1, h0, fun i h1 h2 h3 h4 => ?_⟩
  rcases Nat.lt_or_gt_of_ne h4 with q | q
  · exact a3 i h1 q h3
  · exact b3 i q h2 h3
theorem Seg_top {lo hi r : Nat} (h : IsR s p lo hi r) : Seg s p lo hi r lo hi :=
  ⟨h.2.2.1, ⟨Nat.le_refl _, h.1, fun i h1 h2 h3 => h.2.2.2 i h1 (by have := h.2.1; omega) h3 (by omega), Or.inl rfl⟩, ⟨h.2.1, Nat.le_refl _, fun i h1 h2 h3 => h.2.2.2 i (by have := h.1; omega) h2 h3 (by omega), Or.inl rfl⟩⟩
/-- a key left of the root has its tree left of the root -/
theorem Seg_left {lo hi r j a b : Nat} (h : IsR s p lo hi r) (hj : j < r) (g : Seg s p lo r j a b) : Seg s p lo hi j a b := by
  obtain ⟨h0, la, ⟨b1, b2, b3, b4⟩⟩ := g
  have h1 := h.2.1
  refine ⟨h0, la, b1, by omega, b3, ?_⟩
  rcases b4 with e | ⟨e1, e2, e3⟩
  · subst e
    exact Or.inr ⟨h1, h.2.2.1, h.2.2.2 j (by have := la.1; have := la.2.1; omega) (by omega) h0 (by omega)⟩
  · exact Or.inr ⟨by omega, e2, e3⟩
theorem Seg_right {lo hi r j a b : Nat} (h : IsR s p lo hi r) (hj : r < j) (g : Seg s p (r + 1) hi j a b) : Seg s p lo hi j a b := by
  obtain ⟨h0, ⟨a1, a2, a3, a4⟩, rb⟩ := g
  have h1 := h.1
  refine ⟨h0, ⟨by omega, a2, a3, ?_⟩, rb⟩
  rcases a4 with e | ⟨e1, e2, e3⟩
  · subst e
    exact Or.inr ⟨by omega, h.2.2.1, h.2.2.2 j (by omega) (by have := rb.1; have := rb.2.1; omega) h0 (by omega)⟩
  · exact Or.inr ⟨by omega, e2, e3⟩
/-- the key just above j, whose tree is [a, b) within [lo, hi) -/
def Par (s lo hi a b q : Nat) : Prop := (a = lo ∧ b < hi ∧ q = b) ∨ (lo < a ∧ b = hi ∧ q = a - 1) ∨ (lo < a ∧ b < hi ∧ ((rk s (a - 1) b ∧ q = b) ∨ (rk s b (a - 1) ∧ q = a - 1)))
theorem Par_left {lo hi r j a b q : Nat} (h : IsR s p lo hi r) (g : Seg s p lo r j a b) (k : Par s lo r a b q) : Par s lo hi a b q := by
  have h1 := h.2.1
  obtain ⟨h0, ⟨a1, a2, a3, a4⟩, ⟨b1, b2, b3, b4⟩⟩ := g
  rcases k with ⟨e1, e2, e3⟩ | ⟨e1, e2, e3⟩ | ⟨e1, e2, e3⟩
  · exact Or.inl ⟨e1, by omega, e3⟩
  · subst e2
    refine Or.inr (Or.inr ⟨e1, h1, Or.inr ⟨?_, e3⟩⟩)
    rcases a4 with z | ⟨z1, z2, z3⟩
    · omega
    · exact h.2.2.2 (a - 1) (by omega) (by omega) z2 (by omega)
  · exact Or.inr (Or.inr ⟨e1, by omega, e3⟩)
theorem Par_right {lo hi r j a b q : Nat} (h : IsR s p lo hi r) (g : Seg s p (r + 1) hi j a b) (k : Par s (r + 1) hi a b q) : Par s lo hi a b q := by
  have h1 := h.1
  obtain ⟨h0, ⟨a1, a2, a3, a4⟩, ⟨b1, b2, b3, b4⟩⟩ := g
  rcases k with ⟨e1, e2, e3⟩ | ⟨e1, e2, e3⟩ | ⟨e1, e2, e3⟩
  · subst e1
    refine Or.inr (Or.inr ⟨by omega, e2, Or.inl ⟨?_, e3⟩⟩)
    rcases b4 with z | ⟨z1, z2, z3⟩
    · omega
    · rw [show r + 1 - 1 = r by omega]; exact h.2.2.2 b (by omega) (by omega) z2 (by omega)
  · exact Or.inr (Or.inl ⟨by omega, e2, e3⟩)
  · exact Or.inr (Or.inr ⟨by omega, e2, e3⟩)
theorem Par_un {lo hi a b q r : Nat} (h1 : Par s lo hi a b q) (h2 : Par s lo hi a b r) : q = r := by
  rcases h1 with ⟨e1, e2, e3⟩ | ⟨e1, e2, e3⟩ | ⟨e1, e2, e3 | e3⟩ <;> rcases h2 with ⟨f1, f2, f3⟩ | ⟨f1, f2, f3⟩ | ⟨f1, f2, f3 | f3⟩ <;> first | omega | exact absurd e3.1 (rk_as f3.1)
/-! digest and height of the keys from lo up to hi, by fuel -/
def rt (s : Nat) (p : Nat → Bool) (lo : Nat) : Nat → Option Nat
  | 0 => none
  | n + 1 => match rt s p lo n with
    | none => if p (lo + n) then some (lo + n) else none
    | some b => if p (lo + n) && rkB s (lo + n) b then some (lo + n) else some b
theorem rt_spec (s : Nat) (p : Nat → Bool) (lo : Nat) : ∀ n, (rt s p lo n = none ∧ NoK p lo (lo + n)) ∨ ∃ r, rt s p lo n = some r ∧ IsR s p lo (lo + n) r := by
  intro n
  induction n with
  | zero => exact Or.inl ⟨rfl, NoK.none (by omega)⟩
  | succ n ih =>
    rcases ih with ⟨e, h⟩ | ⟨r, e, h1, h2, h3, h4⟩
    · by_cases c : p (lo + n) = true
      · right
        exact ⟨lo + n, by simp [rt, e, c], by omega, by omega, c, fun j a b q f => absurd q (by rw [h j a (by omega)]; decide)⟩
      · left
        have c' : p (lo + n) = false := by simpa using c
        refine ⟨by simp [rt, e, c'], fun j a b => ?_⟩
        by_cases z : j = lo + n
        · rw [z]; exact c'
        · exact h j a (by omega)
    · right
      by_cases c : p (lo + n) = true ∧ rk s (lo + n) r
      · refine ⟨lo + n, by simp [rt, e, c.1, rkB_iff.mpr c.2], by omega, by omega, c.1, fun j a b q f => ?_⟩
        by_cases z : j = r
        · rw [z]; exact c.2
        · exact rk_tr c.2 (h4 j a (by omega) q z)
      · have c2 : (p (lo + n) && rkB s (lo + n) r) = false := by
          cases hp : p (lo + n)
          · rfl
          · cases hr : rkB s (lo + n) r
            · rfl
            · exact absurd ⟨hp, rkB_iff.mp hr⟩ c
        refine ⟨r, by simp only [rt, e, c2]; rfl, h1, by omega, h3, fun j a b q f => ?_⟩
        by_cases z : j = lo + n
        · subst z
          exact (rk_tot (by omega)).resolve_right (fun w => c ⟨q, w⟩)
        · exact h4 j a (by omega) q f
theorem rt_root {lo hi r : Nat} (h : IsR s p lo hi r) : rt s p lo (hi - lo) = some r := by
  have hl : lo + (hi - lo) = hi := by have := h.1; have := h.2.1; omega
  rcases rt_spec s p lo (hi - lo) with ⟨e, q⟩ | ⟨r2, e, q⟩
  · rw [hl] at q; exact absurd h (fun h => root_no q h)
  · rw [hl] at q; rw [e, root_un h q]
theorem rt_no {lo hi : Nat} (h : NoK p lo hi) : rt s p lo (hi - lo) = none := by
  rcases rt_spec s p lo (hi - lo) with ⟨e, q⟩ | ⟨r2, e, q⟩
  · exact e
  · exfalso
    have : hi - lo ≠ 0 := fun z => by have := q.1; have := q.2.1; omega
    rw [show lo + (hi - lo) = hi by omega] at q
    exact root_no h q
def dgF (s : Nat) (p : Nat → Bool) : Nat → Nat → Nat → Nat
  | 0, _, _ => 0
  | n + 1, lo, hi => match rt s p lo (hi - lo) with
    | none => 0
    | some r => 1 + (31 * dgF s p n lo r + 57 * dgF s p n (r + 1) hi + 7919 * (r + 1)) % 999983
def htF (s : Nat) (p : Nat → Bool) : Nat → Nat → Nat → Nat
  | 0, _, _ => 0
  | n + 1, lo, hi => match rt s p lo (hi - lo) with
    | none => 0
    | some r => 1 + max (htF s p n lo r) (htF s p n (r + 1) hi)
theorem dgF_more (s : Nat) (p : Nat → Bool) : ∀ n m lo hi, hi - lo ≤ n → hi - lo ≤ m → dgF s p n lo hi = dgF s p m lo hi ∧ htF s p n lo hi = htF s p m lo hi := by
  intro n
  induction n with
  | zero =>
    intro m lo hi h1 h2
    have hn : NoK p lo hi := NoK.none (by omega)
    cases m with
    | zero => exact ⟨rfl, rfl⟩
    | succ m => simp only [dgF, htF, rt_no (s := s) hn]; exact ⟨trivial, trivial⟩
  | succ n ih =>
    intro m lo hi h1 h2
    rcases root_ex' s p lo hi with h | ⟨r, h⟩
    · cases m with
      | zero => simp only [dgF, htF, rt_no (s := s) h]; exact ⟨trivial, trivial⟩
      | succ m => simp only [dgF, htF, rt_no (s := s) h]; exact ⟨trivial, trivial⟩
    · have := h.1
      have := h.2.1
      cases m with
      | zero => omega
      | succ m =>
        obtain ⟨a1, a2⟩ := ih m lo r (by omega) (by omega)
        obtain ⟨b1, b2⟩ := ih m (r + 1) hi (by omega) (by omega)
        simp only [dgF, htF, rt_root h, a1, a2, b1, b2]
        exact ⟨trivial, trivial⟩
def dg (s : Nat) (p : Nat → Bool) (lo hi : Nat) : Nat := dgF s p (hi - lo) lo hi
def ht (s : Nat) (p : Nat → Bool) (lo hi : Nat) : Nat := htF s p (hi - lo) lo hi
theorem dg_no {lo hi : Nat} (h : NoK p lo hi) : dg s p lo hi = 0 := by
  unfold dg
  cases e : hi - lo with
  | zero => rfl
  | succ n => rw [dgF, rt_no h]
theorem ht_no {lo hi : Nat} (h : NoK p lo hi) : ht s p lo hi = 0 := by
  unfold ht
  cases e : hi - lo with
  | zero => rfl
  | succ n => rw [htF, rt_no h]
theorem dg_root {lo hi r : Nat} (h : IsR s p lo hi r) : dg s p lo hi = 1 + (31 * dg s p lo r + 57 * dg s p (r + 1) hi + 7919 * (r + 1)) % 999983 := by
  have h1 := h.1
  have h2 := h.2.1
  obtain ⟨n, e⟩ : ∃ n, hi - lo = n + 1 := ⟨hi - lo - 1, by omega⟩
  unfold dg
  rw [e, dgF, rt_root h]
  simp only
  rw [(dgF_more s p n (r - lo) lo r (by omega) (by omega)).1, (dgF_more s p n (hi - (r + 1)) (r + 1) hi (by omega) (by omega)).1]
theorem ht_root {lo hi r : Nat} (h : IsR s p lo hi r) : ht s p lo hi = 1 + max (ht s p lo r) (ht s p (r + 1) hi) := by
  have h1 := h.1
  have h2 := h.2.1
  obtain ⟨n, e⟩ : ∃ n, hi - lo = n + 1 := ⟨hi - lo - 1, by omega⟩
  unfold ht
  rw [e, htF, rt_root h]
  simp only
  rw [(dgF_more s p n (r - lo) lo r (by omega) (by omega)).2, (dgF_more s p n (hi - (r + 1)) (r + 1) hi (by omega) (by omega)).2]
theorem dg_lt (s : Nat) (p : Nat → Bool) (lo hi : Nat) : dg s p lo hi ≤ 999983 := by
  rcases root_ex' s p lo hi with h | ⟨r, h⟩
  · rw [dg_no h]; omega
  · rw [dg_root h]; omega
theorem ht_lt (s : Nat) (p : Nat → Bool) : ∀ n lo hi, hi - lo ≤ n → ht s p lo hi ≤ hi - lo := by
  intro n
  induction n with
  | zero => intro lo hi h; rw [ht_no (NoK.none (by omega))]; omega
  | succ n ih =>
    intro lo hi h
    rcases root_ex' s p lo hi with q | ⟨r, q⟩
    · rw [ht_no q]; omega
    · rw [ht_root q]
      have := q.1
      have := q.2.1
      have := ih lo r (by omega)
      have := ih (r + 1) hi (by omega)
      omega
end Rank
