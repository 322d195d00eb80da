section Looks
variable {s : Nat} {p q : Nat → Bool}
theorem IsR_congr {lo hi r : Nat} (h : ∀ k, lo ≤ k → k < hi → p k = q k) (hr : IsR s p lo hi r) : IsR s q lo hi r := ⟨hr.1, hr.2.1, by rw [← h r hr.1 hr.2.1]; exact hr.2.2.1, fun j a b c d => hr.2.2.2 j a b (by rw [h j a b]; exact c) d⟩
theorem NoK_congr {lo hi : Nat} (h : ∀ k, lo ≤ k → k < hi → p k = q k) (hn : NoK p lo hi) : NoK q lo hi := fun j a b => by rw [← h j a b]; exact hn j a b
theorem dg_congr : ∀ n lo hi, hi - lo ≤ n → (∀ k, lo ≤ k → k < hi → p k = q k) → dg s p lo hi = dg s q lo hi := by
  intro n
  induction n with
  | zero => intro lo hi h _; rw [dg_no (NoK.none (by omega)), dg_no (NoK.none (by omega))]
  | succ n ih =>
    intro lo hi h hk
    rcases root_ex' s p lo hi with hn | ⟨r, hr⟩
    · rw [dg_no hn, dg_no (NoK_congr hk hn)]
    · have h1 := hr.1
      have h2 := hr.2.1
      rw [dg_root hr, dg_root (IsR_congr hk hr), ih lo r (by omega) (fun k a b => hk k a (by omega)), ih (r + 1) hi (by omega) (fun k a b => hk k (by omega) b)]
theorem IsR_rs {a b lo hi r : Nat} (ha : a ≤ lo) (hb : hi ≤ b) (hr : IsR s p lo hi r) : IsR s (rs p lo hi) a b r := by
  refine ⟨by have := hr.1; omega, by have := hr.2.1; omega, by rw [rs_t hr.1 hr.2.1]; exact hr.2.2.1, fun j h1 h2 h3 h4 => ?_⟩
  by_cases c : lo ≤ j ∧ j < hi
  · rw [rs_t c.1 c.2] at h3; exact hr.2.2.2 j c.1 c.2 h3 h4
  · rw [rs_f (by omega)] at h3; exact absurd h3 (by decide)
theorem NoK_rs {a b lo hi : Nat} (hn : NoK p lo hi) : NoK (rs p lo hi) a b := fun j _ _ => rs_no hn j
theorem dg_cut : ∀ n a b lo hi, b - a ≤ n → a ≤ lo → hi ≤ b → dg s (rs p lo hi) a b = dg s p lo hi := by
  intro n
  induction n with
  | zero => intro a b lo hi h h1 h2; rw [dg_no (NoK.none (by omega)), dg_no (NoK.none (by omega))]
  | succ n ih =>
    intro a b lo hi h h1 h2
    rcases root_ex' s p lo hi with hn | ⟨r, hr⟩
    · rw [dg_no (NoK_rs hn), dg_no hn]
    · have r1 := hr.1
      have r2 := hr.2.1
      rw [dg_root (IsR_rs h1 h2 hr), dg_root hr]
      rw [dg_congr (p := rs p lo hi) (q := rs p lo r) (r - a) a r (by omega) (fun k k1 k2 => ?_), ih a r lo r (by omega) h1 (by omega), dg_congr (p := rs p lo hi) (q := rs p (r + 1) hi) (b - (r + 1)) (r + 1) b (by omega) (fun k k1 k2 => ?_), ih (r + 1) b (r + 1) hi (by omega) (by omega) h2]
      · by_cases c : k < hi
        · rw [rs_t (by omega) c, rs_t k1 c]
        · rw [rs_f (by omega), rs_f (by omega)]
      · by_cases c : lo ≤ k
        · rw [rs_t c (by omega), rs_t c k2]
        · rw [rs_f (by omega), rs_f (by omega)]
def topOf (s a b : Nat) : Nat := if rkB s b a then b else a
def lkF (s : Nat) (p q : Nat → Bool) : Nat → Nat → Nat → Nat
  | 0, _, _ => 1
  | n + 1, lo, hi => match rt s p lo (hi - lo), rt s q lo (hi - lo) with
    | some a, some b => if dg s p lo hi = dg s q lo hi then 1 else 1 + lkF s p q n lo (topOf s a b) + lkF s p q n (topOf s a b + 1) hi
    | _, _ => 1
def lk (s : Nat) (p q : Nat → Bool) (lo hi : Nat) : Nat := lkF s p q (hi - lo) lo hi
theorem top_in {lo hi a b : Nat} (ha : IsR s p lo hi a) (hb : IsR s q lo hi b) : lo ≤ topOf s a b ∧ topOf s a b < hi := by
  unfold topOf
  split
  · exact ⟨hb.1, hb.2.1⟩
  · exact ⟨ha.1, ha.2.1⟩
theorem lkF_leaf {n lo hi : Nat} (h : NoK p lo hi ∨ NoK q lo hi) : lkF s p q n lo hi = 1 := by
  cases n with
  | zero => rfl
  | succ n =>
    rw [lkF]
    rcases h with h | h
    · rw [rt_no h]
    · rw [rt_no (p := q) h]
      cases rt s p lo (hi - lo) <;> rfl
theorem lkF_more : ∀ n m lo hi, hi - lo ≤ n → hi - lo ≤ m → lkF s p q n lo hi = lkF s p q m lo hi := by
  intro n
  induction n with
  | zero => intro m lo hi h1 h2; rw [lkF_leaf (Or.inl (NoK.none (by omega))), lkF_leaf (Or.inl (NoK.none (by omega)))]
  | succ n ih =>
    intro m lo hi h1 h2
    rcases root_ex' s p lo hi with hn | ⟨a, ha⟩
    · rw [lkF_leaf (Or.inl hn), lkF_leaf (Or.inl hn)]
    · rcases root_ex' s q lo hi with hn | ⟨b, hb⟩
      · rw [lkF_leaf (Or.inr hn), lkF_leaf (Or.inr hn)]
      · have ht := top_in ha hb
        cases m with
        | zero => have := ha.1; have := ha.2.1; omega
        | succ m =>
          rw [lkF, lkF, rt_root ha, rt_root hb]
          simp only
          rw [ih m lo (topOf s a b) (by omega) (by omega), ih m (topOf s a b + 1) hi (by omega) (by omega)]
theorem lk_leaf {lo hi : Nat} (h : NoK p lo hi ∨ NoK q lo hi) : lk s p q lo hi = 1 := lkF_leaf h
theorem lk_same {lo hi : Nat} (h : dg s p lo hi = dg s q lo hi) : lk s p q lo hi = 1 := by
  unfold lk
  cases e : hi - lo with
  | zero => rfl
  | succ n =>
    rw [lkF]
    cases rt s p lo (hi - lo) with
    | none => rfl
    | some a =>
      cases rt s q lo (hi - lo) with
      | none => rfl
      | some b => simp only [h, if_true]
theorem lk_node {lo hi a b : Nat} (ha : IsR s p lo hi a) (hb : IsR s q lo hi b) (h : ¬ dg s p lo hi = dg s q lo hi) : lk s p q lo hi = 1 + lk s p q lo (topOf s a b) + lk s p q (topOf s a b + 1) hi := by
  have ht := top_in ha hb
  obtain ⟨n, e⟩ : ∃ n, hi - lo = n + 1 := ⟨hi - lo - 1, by omega⟩
  unfold lk
  rw [e, lkF, rt_root ha, rt_root hb]
  simp only [h, if_false]
  rw [lkF_more n (topOf s a b - lo) lo (topOf s a b) (by omega) (by omega), lkF_more n (hi - (topOf s a b + 1)) (topOf s a b + 1) hi (by omega) (by omega)]
theorem bits_zero {x : Int64} {lo hi : Nat} (hh : hi ≤ 50) (hx : Bits x (rs p lo hi)) : (lg_cmp x 0 = 0) = NoK p lo hi := by
  rw [lg_eq, zero_bits]
  apply propext
  constructor
  · intro h j j1 j2
    have := h j (by omega)
    rw [hx j (by omega), rs_t j1 j2] at this
    exact this
  · intro h k hk; rw [hx k hk, rs_no h]
theorem bits_lo {x : Int64} {lo hi t : Nat} (ht : t < 50) (h2 : t < hi) (hx : Bits x (rs p lo hi)) : Bits (x &&& (bitv t - 1)) (rs p lo t) := by
  intro k hk
  rw [bx_and, bx_less (by omega) hk, hx k hk]
  by_cases c : lo ≤ k ∧ k < t
  · rw [rs_t c.1 (by omega), rs_t c.1 c.2]; simp [c.2]
  · rw [rs_f (a := lo) (b := t) (by omega)]
    by_cases c2 : k < t
    · rw [rs_f (by omega)]; simp
    · simp [c2]
theorem bits_hi {x : Int64} {lo hi t : Nat} (ht : t < 50) (h1 : lo ≤ t) (hx : Bits x (rs p lo hi)) : Bits (x &&& (((bitv t - 1) ||| bitv t) ^^^ (-1))) (rs p (t + 1) hi) := by
  intro k hk
  rw [bx_and, bx_not _ hk, bx_or, bx_less (by omega) hk, bx_bit (by omega) hk, hx k hk]
  by_cases c : t + 1 ≤ k ∧ k < hi
  · rw [rs_t (by omega) c.2, rs_t c.1 c.2]
    have e1 : ¬ k < t := by omega
    have e2 : ¬ k = t := by omega
    simp [e1, e2]
  · rw [rs_f (a := t + 1) (b := hi) (by omega)]
    by_cases c2 : k < hi
    · by_cases c3 : k = t
      · simp [c3]
      · have : k < t := by omega
        simp [this]
    · rw [rs_f (by omega)]; simp
theorem rs50 {lo hi : Nat} {x : Int64} (hh : hi ≤ 50) (hx : Bits x (rs p lo hi)) : ∀ j, j < 50 → bx x j = rs p lo hi j := fun j hj => hx j (by omega)
theorem RV_root {lo hi r : Nat} {e : Int32} (hr : IsR s p lo hi r) (h : RV s p lo hi e) : e = nI r := RV_un h (Or.inr ⟨r, hr, rfl⟩)
theorem looks7_eq (hs : s < 10000) : ∀ (n lo hi lv : Nat) (l1 r1 a1 : Nat → Int32) (s1 : Nat → Int64) (o1 : Int32) (d1 e1 pr1 : Nat → Int32) (by1 : Int32) (op1 : Nat → Int32) (l2 r2 a2 : Nat → Int32) (s2 : Nat → Int64) (o2 : Int32) (d2 e2 pr2 : Nat → Int32) (by2 : Int32) (op2 : Nat → Int32) (x y : Int64), hi ≤ 50 → (hi - lo) + 1 ≤ n → lv + (hi - lo) ≤ 50 → Bits x (rs p lo hi) → Bits y (rs q lo hi) → PB pr1 by1 → PB pr2 by2 →
    ∃ R, f_X7_looks n l1 r1 a1 s1 o1 d1 e1 pr1 by1 op1 l2 r2 a2 s2 o2 d2 e2 pr2 by2 op2 x y (nI s) (nI lv) = some R ∧ R.1 = nI (lk s p q lo hi) ∧ PB R.2.2.2.2.2.2.2.2.1 R.2.2.2.2.2.2.2.2.2.1 ∧ PB R.2.2.2.2.2.2.2.2.2.2.2.2.2.2.2.2.2.2.1 R.2.2.2.2.2.2.2.2.2.2.2.2.2.2.2.2.2.2.2.1 := by
  intro n
  induction n with
  | zero => intros; omega
  | succ n ih =>
    intro lo hi lv l1 r1 a1 s1 o1 d1 e1 pr1 by1 op1 l2 r2 a2 s2 o2 d2 e2 pr2 by2 op2 x y hh hn hlv hx hy hP1 hP2
    rw [f_X7_looks]
    have hzx := bits_zero hh hx
    have hzy := bits_zero hh hy
    rcases root_ex' s p lo hi with hno | ⟨a, ha⟩
    · rw [if_pos (by rw [hzx]; exact hno)]
      exact ⟨_, rfl, by rw [lk_leaf (Or.inl hno)]; rfl, hP1, hP2⟩
    · rw [if_neg (by rw [hzx]; exact fun h => root_no h ha)]
      rcases root_ex' s q lo hi with hno | ⟨b, hb⟩
      · rw [if_pos (by rw [hzy]; exact hno)]
        exact ⟨_, rfl, by rw [lk_leaf (Or.inr hno)]; rfl, hP1, hP2⟩
      · rw [if_neg (by rw [hzy]; exact fun h => root_no h hb)]
        have ha1 := ha.1
        have ha2 := ha.2.1
        have hb2 := hb.2.1
        have ht := top_in ha hb
        rw [lit32 50, if_pos ((nI_leI (by omega) (by omega)).mpr (by omega))]
        obtain ⟨l1', r1', a1', s1', o1', d1', e1', pr1', op1', g1, hT1, hpr1⟩ := grow_eq (s := s) hs hP1 (rs50 hh hx) l1 r1 a1 s1 o1 d1 e1 op1
        obtain ⟨l2', r2', a2', s2', o2', d2', e2', pr2', op2', g2, hT2, hpr2⟩ := grow_eq (s := s) hs hP2 (rs50 hh hy) l2 r2 a2 s2 o2 d2 e2 op2
        have c1 := (child_span (by omega) hT1.2.1 hT1.1).2.1
        have c2 := (child_span (by omega) hT2.2.1 hT2.1).2.1
        rw [dg_cut 50 0 50 lo hi (by omega) (by omega) hh] at c1 c2
        have eo1 := RV_root (IsR_rs (Nat.zero_le lo) hh ha) hT1.1
        have eo2 := RV_root (IsR_rs (Nat.zero_le lo) hh hb) hT2.1
        subst eo1
        subst eo2
        simp only [g1, g2, Option.bind_some, c1, c2]
        have q1 := dg_lt s p lo hi
        have q2 := dg_lt s q lo hi
        by_cases c : dg s p lo hi = dg s q lo hi
        · rw [c, if_pos rfl]
          exact ⟨_, rfl, by rw [lk_same c]; rfl, hpr1.PB hs, hpr2.PB hs⟩
        · rw [if_neg (fun h => c (nI_inj (by omega) (by omega) h))]
          have htop : (if b01 (rkB s b a) = (0 : Int32) then some (nI a) else some (nI b)) = some (nI (topOf s a b)) := by
            unfold topOf
            cases rkB s b a
            · rw [if_pos (show b01 false = 0 from rfl)]; rfl
            · rw [if_neg (show ¬ b01 true = 0 by decide)]; rfl
          simp only [ranks_eq hs (show b < 50 by omega) (show a < 50 by omega), Option.bind_some, htop, less_eq, bit_eq, nI_one]
          have ht50 : topOf s a b < 50 := by omega
          obtain ⟨R1, f1, v1, P1, P2⟩ := ih lo (topOf s a b) (lv + 1) l1' r1' a1' s1' (nI a) d1' e1' pr1' (nI s) op1' l2' r2' a2' s2' (nI b) d2' e2' pr2' (nI s) op2' _ _ (by omega) (by omega) (by omega) (bits_lo ht50 ht.2 hx) (bits_lo ht50 ht.2 hy) (hpr1.PB hs) (hpr2.PB hs)
          rw [f1, Option.bind_some]
          obtain ⟨R2, f2, v2, P3, P4⟩ := ih (topOf s a b + 1) hi (lv + 1) R1.2.1 R1.2.2.1 R1.2.2.2.1 R1.2.2.2.2.1 R1.2.2.2.2.2.1 R1.2.2.2.2.2.2.1 R1.2.2.2.2.2.2.2.1 R1.2.2.2.2.2.2.2.2.1 R1.2.2.2.2.2.2.2.2.2.1 R1.2.2.2.2.2.2.2.2.2.2.1 R1.2.2.2.2.2.2.2.2.2.2.2.1 R1.2.2.2.2.2.2.2.2.2.2.2.2.1 R1.2.2.2.2.2.2.2.2.2.2.2.2.2.1 R1.2.2.2.2.2.2.2.2.2.2.2.2.2.2.1 R1.2.2.2.2.2.2.2.2.2.2.2.2.2.2.2.1 R1.2.2.2.2.2.2.2.2.2.2.2.2.2.2.2.2.1 R1.2.2.2.2.2.2.2.2.2.2.2.2.2.2.2.2.2.1 R1.2.2.2.2.2.2.2.2.2.2.2.2.2.2.2.2.2.2.1 R1.2.2.2.2.2.2.2.2.2.2.2.2.2.2.2.2.2.2.2.1 R1.2.2.2.2.2.2.2.2.2.2.2.2.2.2.2.2.2.2.2.2 _ _ hh (by omega) (by omega) (bits_hi ht50 ht.1 hx) (bits_hi ht50 ht.1 hy) P1 P2
          rw [f2, Option.bind_some]
          refine ⟨_, rfl, ?_, P3, P4⟩
          show ((1 : Int32) + R1.1) + R2.1 = _
          rw [v1, v2, lk_node ha hb c, lit32 1, nI_add, nI_add]
end Looks
