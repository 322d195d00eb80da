section Order
variable {s : Nat} {p : Nat → Bool} {is : Nat → Int32} {g : Nat}
def rn (s k : Nat) : Nat := cnt (rkB s k) 50
theorem rkB_irr (a : Nat) : rkB s a a = false := by
  cases h : rkB s a a
  · rfl
  · exact absurd (rkB_iff.mp h) (rk_irr a)
theorem rn_lt {k j : Nat} (hj : j < 50) (h : rk s k j) : rn s j < rn s k :=
  cnt_lt 50 j hj (fun e _ q => rkB_iff.mpr (rk_tr h (rkB_iff.mp q))) (rkB_irr j) (rkB_iff.mpr h)
theorem rn_50 {k : Nat} (hk : k < 50) : rn s k < 50 := by
  have h := cnt_lt (q := rkB s k) (r := fun _ => true) 50 k hk (fun _ _ _ => rfl) (rkB_irr k) rfl
  have e : cnt (fun _ => true) 50 = 50 := by decide
  rw [e] at h
  exact h
theorem rn_inj {k j : Nat} (hk : k < 50) (hj : j < 50) (h : rn s k = rn s j) : k = j := by
  by_cases e : k = j
  · exact e
  · rcases rk_tot (s := s) e with q | q
    · have := rn_lt hj q; omega
    · have := rn_lt hk q; omega
def OrdOK (order : Nat → Int32) : Prop := ∀ e, e < 50 → ∃ k, k < 50 ∧ order e = nI k
theorem order_in (hs : s < 10000) {k : Nat} (hk : k < 50) : ∀ n e, e ≤ 50 → 51 ≤ e + n → L_X8_findOrder_12 n (nI s) (nI k) (nI (cnt (rkB s k) e)) (nI e) = some (nI (rn s k)) := by
  intro n
  induction n with
  | zero => intro e h1 h2; omega
  | succ n ih =>
    intro e h1 h2
    rw [L_X8_findOrder_12]
    by_cases c : e = 50
    · subst c; rw [if_pos (by decide)]; rfl
    · rw [lit32 50, if_neg (nI_ge (by omega) (by omega)), nI_one]
      have z0 : nI (cnt (rkB s k) e) + (0 : Int32) = nI (cnt (rkB s k) e) := by rw [lit32 0, nI_add]; rfl
      have hc : cnt (rkB s k) (e + 1) = cnt (rkB s k) e + (if rkB s k e then 1 else 0) := rfl
      simp only [nI_eq' (show e < 2 ^ 31 by omega) (show k < 2 ^ 31 by omega)]
      by_cases w : e = k
      · rw [if_pos w, z0]
        have : cnt (rkB s k) (e + 1) = cnt (rkB s k) e := by rw [hc, w, rkB_irr]; rfl
        rw [← this]
        exact ih (e + 1) (by omega) (by omega)
      · rw [if_neg w, mranks2_eq hs hk (by omega), Option.bind_some]
        cases hr : rkB s k e
        · rw [if_pos (show b01 false = 0 from rfl), z0]
          have : cnt (rkB s k) (e + 1) = cnt (rkB s k) e := by rw [hc, hr]; rfl
          rw [← this]
          exact ih (e + 1) (by omega) (by omega)
        · rw [if_neg (show ¬ b01 true = 0 by decide), nI_one]
          have : cnt (rkB s k) (e + 1) = cnt (rkB s k) e + 1 := by rw [hc, hr]; rfl
          rw [← this]
          exact ih (e + 1) (by omega) (by omega)
theorem order_loop (hs : s < 10000) : ∀ n k order, k ≤ 50 → 51 ≤ k + n → OrdOK order → (∀ j, j < k → order (rn s j) = nI j) → ∃ order', L_X8_findOrder_2 n (nI s) order (nI k) = some order' ∧ OrdOK order' ∧ (∀ j, j < 50 → order' (rn s j) = nI j) := by
  intro n
  induction n with
  | zero => intro k order h1 h2; omega
  | succ n ih =>
    intro k order h1 h2 hO h
    rw [L_X8_findOrder_2]
    by_cases c : k = 50
    · subst c; exact ⟨order, by rw [if_pos (by decide)], hO, h⟩
    · have e1 : L_X8_findOrder_12 20000 (nI s) (nI k) (0 : Int32) (0 : Int32) = some (nI (rn s k)) := order_in hs (by omega) 20000 0 (by omega) (by omega)
      rw [lit32 50, if_neg (nI_ge (by omega) (by omega)), e1, Option.bind_some, aset_nI (rn_50 (by omega)) (by decide), Option.bind_some, nI_one]
      refine ih (k + 1) _ (by omega) (by omega) (fun e he => ?_) (fun j hj => ?_)
      · by_cases z : e = rn s k
        · exact ⟨k, by omega, by rw [z, upd_s]⟩
        · rw [upd_n _ _ z]; exact hO e he
      · by_cases z : j = k
        · rw [z, upd_s]
        · rw [upd_n _ _ (fun w => z (rn_inj (by omega) (by omega) w))]; exact h j (by omega)
theorem order_eq (hs : s < 10000) {order : Nat → Int32} (hO : OrdOK order) : ∃ order', f_X8_findOrder (nI s) order = some order' ∧ OrdOK order' ∧ (∀ j, j < 50 → order' (rn s j) = nI j) := by
  obtain ⟨order', e, h1, h2⟩ := order_loop (s := s) hs 20000 0 order (by omega) (by omega) hO (fun j hj => absurd hj (by omega))
  refine ⟨order', ?_, h1, h2⟩
  unfold f_X8_findOrder
  have e' : L_X8_findOrder_2 20000 (nI s) order (0 : Int32) = some order' := e
  rw [e']; rfl
/-- a tree within a tree -/
theorem Seg_in {lo hi k a b j a' b' : Nat} (h : Seg s p lo hi k a b) (g : Seg s p a b j a' b') (hjk : j ≠ k) : Seg s p lo hi j a' b' := by
  have hkj : rk s k j := h.root.2.2.2 j (by have := g.2.1.1; have := g.2.1.2.1; omega) (by have := g.2.2.1; have := g.2.2.2.1; omega) g.1 hjk
  obtain ⟨h0, ⟨a1, a2, a3, a4⟩, ⟨b1, b2, b3, b4⟩⟩ := h
  obtain ⟨g0, ⟨c1, c2, c3, c4⟩, ⟨d1, d2, d3, d4⟩⟩ := g
  refine ⟨g0, ⟨by omega, c2, c3, ?_⟩, ⟨d1, by omega, d3, ?_⟩⟩
  · rcases c4 with e | ⟨e1, e2, e3⟩
    · subst e
      rcases a4 with w | ⟨w1, w2, w3⟩
      · exact Or.inl w
      · exact Or.inr ⟨w1, w2, rk_tr w3 hkj⟩
    · exact Or.inr ⟨by omega, e2, e3⟩
  · rcases d4 with e | ⟨e1, e2, e3⟩
    · subst e
      rcases b4 with w | ⟨w1, w2, w3⟩
      · exact Or.inl w
      · exact Or.inr ⟨w1, w2, rk_tr w3 hkj⟩
    · exact Or.inr ⟨by omega, e2, e3⟩
/-- digests and heights told of all keys whose rank number is less than e -/
def DI (s : Nat) (p : Nat → Bool) (dig : Nat → Int64) (tall : Nat → Int32) (lo hi e : Nat) : Prop := ∀ k, lo ≤ k → k < hi → p k = true → rn s k < e → ∀ a b, Seg s p lo hi k a b → dig k = lN (dg s p a b) ∧ tall k = nI (ht s p a b)
theorem m_child {dig : Nat → Int64} {tall : Nat → Int32} {lo hi k a b x y e : Nat} {v : Int32} (hh : hi ≤ 50) (hDI : DI s p dig tall lo hi e) (hk : rn s k ≤ e) (h : Seg s p lo hi k a b) (hV : RV s p x y v) (hxy : (x = a ∧ y = k) ∨ (x = k + 1 ∧ y = b)) :
    (if (0 : Int32) ≤ v then Option.bind (aget 50 dig v) (fun w => some w) else some (0 : Int64)) = some (lN (dg s p x y)) ∧ (if (0 : Int32) ≤ v then Option.bind (aget 50 tall v) (fun w => some w) else some (0 : Int32)) = some (nI (ht s p x y)) := by
  have hR := h.root
  have hkb := hR.2.1
  have hka := hR.1
  have hlo := h.2.1.1
  have hhi := h.2.2.2.1
  rcases hV with ⟨hn, rfl⟩ | ⟨r, hr, rfl⟩
  · rw [dg_no hn, ht_no hn, if_neg (by decide), if_neg (by decide)]
    exact ⟨rfl, rfl⟩
  · have r1 := hr.1
    have r2 := hr.2.1
    have hrk : r ≠ k := by omega
    have hkr : rk s k r := hR.2.2.2 r (by omega) (by omega) hr.2.2.1 hrk
    have sg : Seg s p lo hi r x y := by
      rcases hxy with ⟨rfl, rfl⟩ | ⟨rfl, rfl⟩
      · exact Seg_in h (Seg_left hR (by omega) (Seg_top hr)) hrk
      · exact Seg_in h (Seg_right hR (by omega) (Seg_top hr)) hrk
    have := rn_lt (show r < 50 by omega) hkr
    obtain ⟨d1, d2⟩ := hDI r (by omega) (by omega) hr.2.2.1 (by omega) x y sg
    rw [if_pos (nI_pos' (by omega)), if_pos (nI_pos' (by omega)), aget_nI (by omega) (by decide), aget_nI (by omega) (by decide), d1, d2]
    exact ⟨rfl, rfl⟩
theorem one_eq (hM : MR is g p) (hg : g < 4) (hs : s < 10000) {dig : Nat → Int64} {tall : Nat → Int32} {lo hi k e : Nat} (h1 : lo ≤ k) (h2 : k < hi) (hh : hi ≤ 50) (hp : p k = true) (hDI : DI s p dig tall lo hi e) :
    ∃ dig' tall', f_X8_findOne (nI s) is dig tall (nI g) (nI k) (nI lo) (im hi) = some (dig', tall') ∧ (∀ j, j ≠ k → dig' j = dig j ∧ tall' j = tall j) ∧ (rn s k ≤ e → ∀ a b, Seg s p lo hi k a b → dig' k = lN (dg s p a b) ∧ tall' k = nI (ht s p a b)) := by
  obtain ⟨a, ea, ha⟩ := below_eq hM hg hs (j := k) (lo := lo) (by omega) h1
  obtain ⟨b, eb, hb⟩ := beyond_eq hM hg hs (j := k) (hi := hi) h2 hh
  have sg : Seg s p lo hi k a b := ⟨hp, ha, hb⟩
  have hR := sg.root
  have hb50 := hb.2.1
  have ha2 := ha.2.1
  obtain ⟨v1, e1, hV1⟩ := rootOf_eq hM hg hs (lo := a) (hi := k) (by omega) (by omega)
  obtain ⟨v2, e2, hV2⟩ := rootOf_eq hM hg hs (lo := k + 1) (hi := b) (by omega) (by omega)
  unfold f_X8_findOne
  have e1' : f_X8_rootOf (nI s) is (nI g) (nI a) (nI k - (1 : Int32)) = some v1 := e1
  have e2' : f_X8_rootOf (nI s) is (nI g) (nI (k + 1)) (nI b - (1 : Int32)) = some v2 := e2
  rw [ea, Option.bind_some, im_one, e1', Option.bind_some, eb, Option.bind_some, nI_one, e2', Option.bind_some]
  -- the children, whether told or not
  have some1 : ∀ {x y : Nat} {v : Int32}, RV s p x y v → y ≤ 50 → (∃ w, (if (0 : Int32) ≤ v then Option.bind (aget 50 dig v) (fun w => some w) else some (0 : Int64)) = some w) ∧ (∃ w, (if (0 : Int32) ≤ v then Option.bind (aget 50 tall v) (fun w => some w) else some (0 : Int32)) = some w) := by
    intro x y v hV hy
    rcases hV with ⟨hn, rfl⟩ | ⟨r, hr, rfl⟩
    · rw [if_neg (by decide), if_neg (by decide)]; exact ⟨⟨_, rfl⟩, ⟨_, rfl⟩⟩
    · have := hr.2.1
      rw [if_pos (nI_pos' (by omega)), if_pos (nI_pos' (by omega)), aget_nI (by omega) (by decide), aget_nI (by omega) (by decide)]
      exact ⟨⟨_, rfl⟩, ⟨_, rfl⟩⟩
  obtain ⟨⟨w1, q1⟩, ⟨w3, q3⟩⟩ := some1 hV1 (by omega)
  obtain ⟨⟨w2, q2⟩, ⟨w4, q4⟩⟩ := some1 hV2 (by omega)
  rw [q1, Option.bind_some, q2, Option.bind_some, q3, Option.bind_some, q4, Option.bind_some, asetL_nI (by omega) (by decide), Option.bind_some]
  have fin : ∀ (t : Int32), (rn s k ≤ e → t = nI (ht s p a b)) → ∃ dig' tall', (Option.bind (aset 50 tall (nI k) t) (fun f14 => some (vp_updL dig k ((1 : Int64) + (((31 : Int64) * w1 + (57 : Int64) * w2 + (7919 : Int64) * (nI (k + 1)).toInt64) - ((31 : Int64) * w1 + (57 : Int64) * w2 + (7919 : Int64) * (nI (k + 1)).toInt64) / (999983 : Int64) * (999983 : Int64))), f14))) = some (dig', tall') ∧ (∀ j, j ≠ k → dig' j = dig j ∧ tall' j = tall j) ∧ (rn s k ≤ e → ∀ a b, Seg s p lo hi k a b → dig' k = lN (dg s p a b) ∧ tall' k = nI (ht s p a b)) := by
    intro t ht_
    rw [aset_nI (by omega) (by decide), Option.bind_some]
    refine ⟨_, _, rfl, fun j hj => ⟨updL_n _ _ hj, upd_n _ _ hj⟩, fun hrn a2 b2 sg2 => ?_⟩
    rw [La_un sg2.2.1 sg.2.1, Rb_un sg2.2.2 sg.2.2, updL_s, upd_s]
    refine ⟨?_, ht_ hrn⟩
    have c1 := (m_child hh hDI hrn sg hV1 (Or.inl ⟨rfl, rfl⟩)).1
    have c2 := (m_child hh hDI hrn sg hV2 (Or.inr ⟨rfl, rfl⟩)).1
    rw [q1] at c1
    rw [q2] at c2
    cases c1
    cases c2
    have l1 := dg_lt s p a k
    have l2 := dg_lt s p (k + 1) b
    rw [nI_l (by omega), litL 31, litL 57, litL 7919, lN_mul, lN_mul, lN_mul, lN_add, lN_add, litL 999983, pk_lRem (by omega) (by decide) (by decide), litL 1, lN_add, ← dg_root hR]
  have ht34 : rn s k ≤ e → w3 = nI (ht s p a k) ∧ w4 = nI (ht s p (k + 1) b) := by
    intro hrn
    have c3 := (m_child hh hDI hrn sg hV1 (Or.inl ⟨rfl, rfl⟩)).2
    have c4 := (m_child hh hDI hrn sg hV2 (Or.inr ⟨rfl, rfl⟩)).2
    rw [q3] at c3
    rw [q4] at c4
    exact ⟨Option.some.inj c3, Option.some.inj c4⟩
  have l3 := ht_lt s p (k - a) a k (by omega)
  have l4 := ht_lt s p (b - (k + 1)) (k + 1) b (by omega)
  by_cases c : w3 ≤ w4
  · rw [if_pos c]
    refine fin _ (fun hrn => ?_)
    obtain ⟨rfl, rfl⟩ := ht34 hrn
    rw [nI_le' (by omega) (by omega)] at c
    rw [ht_root hR, Nat.max_eq_right c, lit32 1, nI_add]
  · rw [if_neg c]
    refine fin _ (fun hrn => ?_)
    obtain ⟨rfl, rfl⟩ := ht34 hrn
    rw [nI_le' (by omega) (by omega)] at c
    rw [ht_root hR, Nat.max_eq_left (by omega), lit32 1, nI_add]
theorem dig_loop (hM : MR is g p) (hg : g < 4) (hs : s < 10000) {order : Nat → Int32} (hO : OrdOK order) (hO2 : ∀ j, j < 50 → order (rn s j) = nI j) {lo hi : Nat} (hh : hi ≤ 50) (hl : lo ≤ 50) : ∀ n e dig tall, e ≤ 50 → 51 ≤ e + n → DI s p dig tall lo hi e → ∃ dig' tall', L_X8_digestOf_7 n (nI s) is order dig tall (nI g) (nI lo) (im hi) (nI e) = some (dig', tall') ∧ DI s p dig' tall' lo hi 50 := by
  intro n
  induction n with
  | zero => intro e dig tall h1 h2; omega
  | succ n ih =>
    intro e dig tall h1 h2 hDI
    rw [L_X8_digestOf_7]
    by_cases c : e = 50
    · subst c; exact ⟨dig, tall, by rw [if_pos (by decide)], hDI⟩
    · obtain ⟨k, hk, ek⟩ := hO e (by omega)
      rw [lit32 50, if_neg (nI_ge (by omega) (by omega)), aget_nI (by omega) (by decide), Option.bind_some, ek, in_eq, to64, to64, to64, nI_toInt (by omega), nI_toInt (by omega), im_toInt (by omega), Option.bind_some, nI_one]
      -- what is told up to e stays; e itself is told if its key has that number
      have skip : (¬ (lo ≤ k ∧ k < hi ∧ p k = true)) → DI s p dig tall lo hi (e + 1) := by
        intro hno j j1 j2 j3 j4
        by_cases w : rn s j = e
        · have : j = k := by
            have h5 := hO2 j (by omega)
            rw [w, ek] at h5
            exact ((nI_eq (by omega) (by omega)).mp h5).symm
          subst this
          exact absurd ⟨j1, j2, j3⟩ hno
        · exact hDI j j1 j2 j3 (by omega)
      by_cases hin : lo ≤ k ∧ k < hi
      · rw [if_pos (show ((lo : Int) ≤ (k : Int) ∧ (k : Int) ≤ (hi : Int) - 1) by omega), if_neg (show ¬ (1 : Int32) = 0 by decide), has_eq hM hg hk, Option.bind_some]
        cases hp : p k
        · rw [if_pos (show b01 false = 0 from rfl)]
          exact ih (e + 1) dig tall (by omega) (by omega) (skip (fun h => by rw [hp] at h; exact absurd h.2.2 (by decide)))
        · rw [if_neg (show ¬ b01 true = 0 by decide)]
          obtain ⟨dig', tall', e1, o1, o2⟩ := one_eq hM hg hs hin.1 hin.2 hh hp hDI
          rw [e1, Option.bind_some]
          refine ih (e + 1) dig' tall' (by omega) (by omega) ?_
          intro j j1 j2 j3 j4 a b sg
          by_cases w : j = k
          · subst w
            by_cases w2 : rn s j ≤ e
            · exact o2 w2 a b sg
            · omega
          · by_cases w3 : rn s j = e
            · have h5 := hO2 j (by omega)
              rw [w3, ek] at h5
              exact absurd ((nI_eq (by omega) (by omega)).mp h5).symm w
            · obtain ⟨z1, z2⟩ := o1 j w
              rw [z1, z2]
              exact hDI j j1 j2 j3 (by omega) a b sg
      · rw [if_neg (show ¬ ((lo : Int) ≤ (k : Int) ∧ (k : Int) ≤ (hi : Int) - 1) by omega), if_pos (show (0 : Int32) = 0 from rfl)]
        exact ih (e + 1) dig tall (by omega) (by omega) (skip (fun h => hin ⟨h.1, h.2.1⟩))
theorem digestOf_eq (hM : MR is g p) (hg : g < 4) (hs : s < 10000) {order : Nat → Int32} (hO : OrdOK order) (dig : Nat → Int64) (tall : Nat → Int32) {lo hi : Nat} (hh : hi ≤ 50) (hl : lo ≤ 50) :
    ∃ order' dig' tall', f_X8_digestOf (nI s) is order dig tall (nI g) (nI lo) (im hi) = some (nI (dg s p lo hi), order', dig', tall') ∧ OrdOK order' ∧ DI s p dig' tall' lo hi 50 := by
  obtain ⟨order', e1, h1, h2⟩ := order_eq hs hO
  obtain ⟨dig', tall', e2, hDI⟩ := dig_loop hM hg hs h1 h2 hh hl 20000 0 dig tall (by omega) (by omega) (fun k _ _ _ h => absurd h (by omega))
  obtain ⟨v, e3, hV⟩ := rootOf_eq hM hg hs (lo := lo) (hi := hi) hh (by omega)
  unfold f_X8_digestOf
  have e2' : L_X8_digestOf_7 20000 (nI s) is order' dig tall (nI g) (nI lo) (im hi) (0 : Int32) = some (dig', tall') := e2
  rw [e1, Option.bind_some, e2', Option.bind_some, e3, Option.bind_some]
  rcases hV with ⟨hn, rfl⟩ | ⟨r, hr, rfl⟩
  · rw [if_neg (by decide), dg_no hn]
    exact ⟨_, _, _, rfl, h1, hDI⟩
  · have r2 := hr.2.1
    rw [if_pos (nI_pos' (by omega)), aget_nI (by omega) (by decide), Option.bind_some]
    refine ⟨order', dig', tall', ?_, h1, hDI⟩
    show some ((dig' r).toInt32, order', dig', tall') = _
    rw [(hDI r hr.1 hr.2.1 hr.2.2.1 (rn_50 (by omega)) lo hi (Seg_top hr)).1, lN_i]
end Order
