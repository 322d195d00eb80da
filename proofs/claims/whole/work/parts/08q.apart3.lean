section Apart3
variable {S : Nat → Nat → Bool} {keys : Nat → Int64} {is : Nat → Int32} {s : Nat}
theorem apart_eq (h : SetR S keys is) (hs : s < 10000) {pr1 pr2 : Nat → Int32} {by1 by2 : Int32} (hP1 : PB pr1 by1) (hP2 : PB pr2 by2) {order : Nat → Int32} (hO : OrdOK order) (l1 r1 a1 : Nat → Int32) (s1 : Nat → Int64) (o1 : Int32) (d1 e1 op1 : Nat → Int32) (l2 r2 a2 : Nat → Int32) (s2 : Nat → Int64) (o2 : Int32) (d2 e2 op2 : Nat → Int32) (mdig : Nat → Int64) (tall fr up : Nat → Int32) (v1 v2 v3 : Int32) :
    ∃ R1 R2, f_X7_apart keys (nI s) l1 r1 a1 s1 o1 d1 e1 pr1 by1 op1 l2 r2 a2 s2 o2 d2 e2 pr2 by2 op2 v1 v2 v3 = some R1 ∧ f_X8_apart (nI s) is order mdig tall fr up v1 v2 v3 = some R2 ∧ R1.1 = R2.1 ∧ PB R1.2.2.2.2.2.2.2.2.1 R1.2.2.2.2.2.2.2.2.2.1 ∧ PB R1.2.2.2.2.2.2.2.2.2.2.2.2.2.2.2.2.2.2.1 R1.2.2.2.2.2.2.2.2.2.2.2.2.2.2.2.2.2.2.2.1 ∧ OrdOK R2.2.1 := by
  unfold f_X7_apart f_X8_apart
  rcases ixc v1 4 (by decide) with ⟨g1, h1, rfl⟩ | hv
  · rcases ixc v2 4 (by decide) with ⟨g2, h2, rfl⟩ | hv
    · simp only [isSet_in h1, mSet_in h1, isSet_in h2, mSet_in h2, Option.bind_some, n10e, if_false, in32 v3 0 2 (a := 0) (b := 2) rfl rfl]
      by_cases c1 : v3 < 0
      · have c1' : v3.toInt < 0 := by rw [l32] at c1; exact c1
        rw [if_pos c1, if_neg (show ¬ ((0 : Int) ≤ v3.toInt ∧ v3.toInt ≤ 2) by omega), if_pos rfl]
        exact ⟨_, _, rfl, rfl, rfl, hP1, hP2, hO⟩
      · by_cases c2 : v3 ≤ 2
        · have c3 : (0 : Int) ≤ v3.toInt ∧ v3.toInt ≤ 2 := by
            rw [l32] at c1; rw [le32] at c2
            exact ⟨by have : (0 : Int32).toInt = 0 := rfl; omega, c2⟩
          rw [if_neg c1, if_pos c2, if_pos c3]
          simp only [n10e, if_false, aget_nI h1 (show 4 < 2 ^ 31 by decide), aget_nI h2 (show 4 < 2 ^ 31 by decide), Option.bind_some]
          obtain ⟨w, hw, rfl⟩ := w7 (n := 2) c1 c2 (by decide)
          rcases (show w = 0 ∨ w = 1 ∨ w = 2 by omega) with rfl | rfl | rfl
          · have z : (nI 0 = (0 : Int32)) = True := eq_self _
            have e1 : f_X8_apartMany is (nI g1) (nI g2) = some (nI (cnt (fun j => S g1 j ^^ S g2 j) 50)) := by
              unfold f_X8_apartMany
              have e : L_X8_apartMany_5 20000 is (nI g1) (nI g2) (0 : Int32) (0 : Int32) = some _ := apartMany_loop (h g1 h1).2.1 (h g2 h2).2.1 h1 h2 20000 0 (by omega) (by omega)
              rw [e]; rfl
            simp only [z, if_true, count_eq, Option.bind_some, e1]
            refine ⟨_, _, rfl, rfl, ?_, hP1, hP2, hO⟩
            show nI (pcx _) = nI _
            congr 1
            refine cnt_cut 64 (by omega) (fun k k1 k2 => ?_) (fun k hk => ?_)
            · rw [bx_xor, (h g1 h1).1 k k2, (h g2 h2).1 k k2]; simp [q50, Nat.not_lt.mpr k1]
            · rw [bx_xor, bx_key h h1 hk, bx_key h h2 hk]
          · have z0 : (nI 1 = (0 : Int32)) = False := nI_ne (a := 1) (b := 0) (by decide) (by decide) (by decide)
            have z : (nI 1 = (1 : Int32)) = True := eq_self _
            have hbit : ∀ {g : Nat}, g < 4 → Bits (keys g) (rs (S g) 0 50) := fun {g} hg k hk => by
              rw [(h g hg).1 k hk]; unfold q50 rs; simp
            obtain ⟨R, k1e, f1, f2, f3⟩ := looks7_eq (p := S g1) (q := S g2) hs 60 0 50 0 l1 r1 a1 s1 o1 d1 e1 pr1 by1 op1 l2 r2 a2 s2 o2 d2 e2 pr2 by2 op2 (keys g1) (keys g2) (by omega) (by omega) (by omega) (hbit h1) (hbit h2) hP1 hP2
            obtain ⟨R2, k2e, f4, f5⟩ := looks8_eq (h g1 h1).2.1 (h g2 h2).2.1 h1 h2 hs hO mdig tall fr up
            have k1e' : f_X7_looks 60 l1 r1 a1 s1 o1 d1 e1 pr1 by1 op1 l2 r2 a2 s2 o2 d2 e2 pr2 by2 op2 (keys g1) (keys g2) (nI s) (0 : Int32) = some R := k1e
            simp only [z0, z, if_true, if_false, k1e', k2e, Option.bind_some]
            exact ⟨_, _, rfl, rfl, f1.trans f4.symm, f2, f3, f5⟩
          · have z0 : (nI 2 = (0 : Int32)) = False := nI_ne (a := 2) (b := 0) (by decide) (by decide) (by decide)
            have z1 : (nI 2 = (1 : Int32)) = False := nI_ne (a := 2) (b := 1) (by decide) (by decide) (by decide)
            simp only [z0, z1, if_false]
            unfold f_X7_shared f_X8_shared
            obtain ⟨l1', r1', a1', s1', o1', d1', e1', pr1', op1', g1e, hT1, hpr1⟩ := grow_eq (s := s) hs hP1 (fun j hj => bx_key h h1 hj) l1 r1 a1 s1 o1 d1 e1 op1
            obtain ⟨l2', r2', a2', s2', o2', d2', e2', pr2', op2', g2e, hT2, hpr2⟩ := grow_eq (s := s) hs hP2 (fun j hj => bx_key h h2 hj) l2 r2 a2 s2 o2 d2 e2 op2
            obtain ⟨r, q1, q2⟩ := shared_loop h hs h1 h2 hT1 hT2 20000 0 0 (by omega) (by omega)
            have q1' : L_X7_shared_36 20000 s1' s2' (keys g1) (keys g2) (0 : Int32) (0 : Int32) = some r := q1
            have q2' : L_X8_shared_5 20000 (nI s) is (nI g1) (nI g2) (0 : Int32) (0 : Int32) = some r := q2
            simp only [g1e, g2e, Option.bind_some, q1', q2']
            exact ⟨_, _, rfl, rfl, rfl, hpr1.PB hs, hpr2.PB hs, hO⟩
        · have c2' : 2 < v3.toInt := by
            rw [le32] at c2
            have : (2 : Int32).toInt = 2 := rfl
            omega
          rw [if_neg c1, if_neg c2, if_neg (show ¬ ((0 : Int) ≤ v3.toInt ∧ v3.toInt ≤ 2) by omega), if_pos rfl]
          exact ⟨_, _, rfl, rfl, rfl, hP1, hP2, hO⟩
    · simp only [isSet_in h1, mSet_in h1, isSet_out hv, mSet_out hv, Option.bind_some, n10e, if_false, if_true]
      exact ⟨_, _, rfl, rfl, rfl, hP1, hP2, hO⟩
  · simp only [isSet_out hv, mSet_out hv, Option.bind_some, if_true]
    exact ⟨_, _, rfl, rfl, rfl, hP1, hP2, hO⟩
/-! orders -/
theorem fact_loop {g c : Nat} {p : Nat → Bool} (hM : MR is g p) (hg : g < 4) (hc : cnt p 50 = c) : ∀ n f (l : Int64), 2 ≤ f → f ≤ c + 1 ∨ f = 2 → c + 2 ≤ f + n → 1 ≤ n → ∃ r, L_X7_orders_39 n (nI c) l (nI f) = some r ∧ L_X8_orders_30 n is (nI g) l (nI f) = some r := by
  have hc50 := cnt_le p 50
  intro n
  induction n with
  | zero => intro f l h0 h1 h2 h3; omega
  | succ n ih =>
    intro f l h0 h1 h2 h3
    rw [L_X7_orders_39, L_X8_orders_30, many_eq hM hg, Option.bind_some, hc]
    by_cases w : c < f
    · have e : nI c < nI f := (nI_ltI (by omega) (by omega)).mpr w
      rw [if_pos e, if_pos e]; exact ⟨_, rfl, rfl⟩
    · have e : ¬ nI c < nI f := fun q => w ((nI_ltI (by omega) (by omega)).mp q)
      rw [if_neg e, if_neg e, nI_one]
      exact ih (f + 1) _ (by omega) (by omega) (by omega) (by omega)
theorem ord_loop (h : SetR S keys is) (hs : s < 10000) {g : Nat} (hg : g < 4) {l1 r1 a1 : Nat → Int32} {s1 : Nat → Int64} {o1 : Int32} {d1 e1 : Nat → Int32} (hT : TreeOK s (S g) l1 r1 a1 s1 o1 d1 e1) : ∀ n k (l : Int64), k ≤ 50 → 51 ≤ k + n → ∃ r, L_X7_orders_83 n s1 l (nI k) = some r ∧ L_X8_orders_55 n (nI s) is (nI g) l (nI k) = some r := by
  have d1e : ∀ x : Int64, x / (1 : Int64) = x := fun x => by
    have : ∀ y : Int64, y / 1 = y := fun y => Int64.div_one
    exact this x
  intro n
  induction n with
  | zero => intro k l q1 q2; omega
  | succ n ih =>
    intro k l q1 q2
    rw [L_X7_orders_83, L_X8_orders_55]
    by_cases w : k = 50
    · subst w; rw [if_pos (by decide), if_pos (by decide)]; exact ⟨_, rfl, rfl⟩
    · have hk : k < 50 := by omega
      rw [lit32 50, if_neg (nI_ge (by omega) (by omega)), if_neg (nI_ge (by omega) (by omega)), aget_nI hk (by decide), Option.bind_some, count_eq, Option.bind_some, has_eq (h g hg).2.1 hg hk, Option.bind_some, nI_one, d1e]
      have h64 := pcx_le (s1 k)
      obtain ⟨r0, ea, eb⟩ := ih (k + 1) l (by omega) (by omega)
      cases hp : S g k
      · rw [hT.2.2.1 k hk hp, if_pos (show nI (pcx 0) ≤ (1 : Int32) by decide), if_pos (show b01 false = 0 from rfl)]
        exact ⟨r0, ea, eb⟩
      · obtain ⟨x, a, b, t1, ha, hb, hx⟩ := treeOf_eq (h g hg).2.1 hg hs hk
        obtain ⟨a3, b3, sg, f, -⟩ := hT.2.1 k (by omega) hk hp
        have ex : x = s1 k := by
          rw [La_un ha sg.2.1, Rb_un hb sg.2.2] at hx
          exact Bits_un hx f.2.2.1
        have hbk : bx (s1 k) k = true := by rw [f.2.2.1 k (by omega), rs_t sg.2.1.2.1 sg.2.2.1]; exact hp
        have hpos : pcx (s1 k) ≠ 0 := fun z => by
          have := (cnt_zero 64).mp z k (by omega)
          rw [hbk] at this; exact absurd this (by decide)
        rw [if_neg (show ¬ b01 true = 0 by decide), t1, Option.bind_some, ones_eq, Option.bind_some, ex]
        have hne : ¬ (nI (pcx (s1 k))).toInt64 = 0 := by
          rw [nI_l (by omega)]
          exact fun z => hpos ((pk_lEQ (a := pcx (s1 k)) (b := 0) (by omega) (by decide)).mp z)
        unfold jdivL
        rw [if_neg hne, Option.bind_some]
        by_cases c1 : pcx (s1 k) = 1
        · rw [c1, if_pos (show nI 1 ≤ (1 : Int32) by decide), show (nI 1).toInt64 = (1 : Int64) from rfl, d1e]
          exact ⟨r0, ea, eb⟩
        · rw [lit32 1, if_neg (nI_ge (by omega) (by omega)), Option.bind_some]
          exact ih (k + 1) _ (by omega) (by omega)
theorem orders_eq (h : SetR S keys is) (hs : s < 10000) {pr1 : Nat → Int32} {by1 : Int32} (hP1 : PB pr1 by1) (l1 r1 a1 : Nat → Int32) (s1 : Nat → Int64) (o1 : Int32) (d1 e1 op1 : Nat → Int32) (v : Int32) :
    ∃ R1 R2, f_X7_orders keys (nI s) l1 r1 a1 s1 o1 d1 e1 pr1 by1 op1 v = some R1 ∧ f_X8_orders (nI s) is v = some R2 ∧ R1.1 = R2 ∧ PB R1.2.2.2.2.2.2.2.2.1 R1.2.2.2.2.2.2.2.2.2.1 := by
  unfold f_X7_orders f_X8_orders
  rcases ixc v 4 (by decide) with ⟨g, hg, rfl⟩ | hv
  · simp only [isSet_in hg, mSet_in hg, Option.bind_some, n10e, if_false, aget_nI hg (show 4 < 2 ^ 31 by decide), count_eq, pcx_keys h hg, many_eq (h g hg).2.1 hg]
    have hc50 := cnt_le (S g) 50
    by_cases c : cnt (S g) 50 ≤ 20
    · have e : nI (cnt (S g) 50) ≤ (20 : Int32) := (nI_leI (b := 20) (by omega) (by decide)).mpr c
      rw [if_pos e, if_pos e]
      obtain ⟨r, q1, q2⟩ := fact_loop (h g hg).2.1 hg rfl 20000 2 1 (by omega) (by omega) (by omega) (by omega)
      have q1' : L_X7_orders_39 20000 (nI (cnt (S g) 50)) (1 : Int64) (2 : Int32) = some r := q1
      have q2' : L_X8_orders_30 20000 is (nI g) (1 : Int64) (2 : Int32) = some r := q2
      obtain ⟨l1', r1', a1', s1', o1', d1', e1', pr1', op1', g1e, hT1, hpr1⟩ := grow_eq (s := s) hs hP1 (fun j hj => bx_key h hg hj) l1 r1 a1 s1 o1 d1 e1 op1
      obtain ⟨r2, q3, q4⟩ := ord_loop h hs hg hT1 20000 0 r (by omega) (by omega)
      have q3' : L_X7_orders_83 20000 s1' r (0 : Int32) = some r2 := q3
      have q4' : L_X8_orders_55 20000 (nI s) is (nI g) r (0 : Int32) = some r2 := q4
      simp only [q1', q2', g1e, q3', q4', Option.bind_some]
      exact ⟨_, _, rfl, rfl, rfl, hpr1.PB hs⟩
    · have e : ¬ nI (cnt (S g) 50) ≤ (20 : Int32) := fun z => c ((nI_leI (b := 20) (by omega) (by decide)).mp z)
      rw [if_neg e, if_neg e]
      exact ⟨_, _, rfl, rfl, rfl, hP1⟩
  · simp only [isSet_out hv, mSet_out hv, Option.bind_some, if_true]
    exact ⟨_, _, rfl, rfl, rfl, hP1⟩
end Apart3
