section Depth
variable {s : Nat} {p : Nat → Bool} {is : Nat → Int32} {g : Nat}
noncomputable def ancB (s : Nat) (p : Nat → Bool) (j k : Nat) : Bool := @decide (Anc s p j k) (Classical.propDecidable _)
theorem ancB_iff {j k : Nat} : ancB s p j k = true ↔ Anc s p j k := by unfold ancB; exact @decide_eq_true_iff _ (Classical.propDecidable _)
noncomputable def dep (s : Nat) (p : Nat → Bool) (k : Nat) : Nat := cnt (fun j => decide (j ≠ k) && ancB s p j k) 50
theorem bool_ext {a b : Bool} (h : a = true ↔ b = true) : a = b := by
  cases a <;> cases b
  · rfl
  · exact absurd (h.mpr rfl) (by decide)
  · exact absurd (h.mp rfl) (by decide)
  · rfl
theorem span_anc {left right parent : Nat → Int32} {span : Nat → Int64} {root : Int32} {dig hei : Nat → Int32} (hT : TreeOK s p left right parent span root dig hei) {j k : Nat} (hj : j < 50) (hk : k < 50) (hp : p k = true) : bx (span j) k = ancB s p j k := by
  apply bool_ext
  rw [ancB_iff]
  cases hpj : p j
  · rw [hT.2.2.1 j hj hpj, bx_0]
    exact ⟨fun h => absurd h (by decide), fun h => by rw [h.1] at hpj; exact absurd hpj (by decide)⟩
  · obtain ⟨a, b, sg, f, -⟩ := hT.2.1 j (by omega) hj hpj
    rw [f.2.2.1 k (by omega), ← Seg_anc sg hk hp]
    unfold rs
    rw [hp]
    simp
theorem depth_loop7 {span : Nat → Int64} {k : Nat} (hk : k < 50) : ∀ n t, t ≤ 50 → 51 ≤ t + n → L_X4_depth_4 n span (nI k) (nI (cnt (fun j => decide (j ≠ k) && bx (span j) k) t)) (nI t) = some (nI (cnt (fun j => decide (j ≠ k) && bx (span j) k) 50)) := by
  intro n
  induction n with
  | zero => intro t h1 h2; omega
  | succ n ih =>
    intro t h1 h2
    rw [L_X4_depth_4]
    by_cases c : t = 50
    · subst c; rw [if_pos (by decide)]
    · have hc : cnt (fun j => decide (j ≠ k) && bx (span j) k) (t + 1) = cnt (fun j => decide (j ≠ k) && bx (span j) k) t + (if (decide (t ≠ k) && bx (span t) k) = true then 1 else 0) := rfl
      rw [lit32 50, if_neg (nI_ge (by omega) (by omega)), nI_one]
      simp only [nI_eq' (show t < 2 ^ 31 by omega) (show k < 2 ^ 31 by omega)]
      by_cases w : t = k
      · rw [if_pos w]
        have := ih (t + 1) (by omega) (by omega)
        rw [hc] at this
        simp only [w, ne_eq, not_true_eq_false, decide_false, Bool.false_and, Bool.false_eq_true, if_false, Nat.add_zero] at this ⊢
        exact this
      · rw [if_neg w, aget_nI (by omega) (by decide), Option.bind_some, isIn_eq _ (by omega), Option.bind_some]
        have := ih (t + 1) (by omega) (by omega)
        rw [hc] at this
        cases hb : bx (span t) k
        · rw [if_pos (show b01 false = 0 from rfl)]
          simp only [hb, Bool.and_false, Bool.false_eq_true, if_false, Nat.add_zero] at this
          exact this
        · rw [if_neg (show ¬ b01 true = 0 by decide), nI_one]
          have hd : decide (t ≠ k) = true := by simp [w]
          simp only [hb, hd, Bool.and_true, if_true] at this
          exact this
theorem depth7_eq {left right parent : Nat → Int32} {span : Nat → Int64} {root : Int32} {dig hei : Nat → Int32} (hT : TreeOK s p left right parent span root dig hei) {k : Nat} (hk : k < 50) (hp : p k = true) : f_X4_depth span (nI k) = some (nI (dep s p k)) := by
  unfold f_X4_depth
  have e : L_X4_depth_4 20000 span (nI k) (0 : Int32) (0 : Int32) = some _ := depth_loop7 (span := span) hk 20000 0 (by omega) (by omega)
  rw [e, Option.bind_some]
  congr 2
  exact cnt_congr 50 (fun j hj => by rw [span_anc hT hj hk hp])
theorem Anc_self {k : Nat} (hp : p k = true) : Anc s p k k := ⟨hp, fun i hi _ h => absurd (show i = k by omega) h⟩
theorem dep_par {k a b q : Nat} (sg : Seg s p 0 50 k a b) (hq : Par s 0 50 a b q) : dep s p k = dep s p q + 1 := by
  have hk50 : k < 50 := by have := sg.2.2.1; have := sg.2.2.2.1; omega
  obtain ⟨q1, q2, q3, q4, -⟩ := Anc_par (j := k) sg hq hk50 sg.1
  refine cnt_add (q := fun j => decide (j ≠ q) && ancB s p j q) 50 q q3 (fun j hj hn => ?_) (by simp) ?_
  · apply bool_ext
    simp only [Bool.and_eq_true, decide_eq_true_eq, ancB_iff]
    cases hpj : p j
    · exact ⟨fun h => by rw [h.2.1] at hpj; exact absurd hpj (by decide), fun h => by rw [h.2.1] at hpj; exact absurd hpj (by decide)⟩
    · obtain ⟨-, -, -, -, hiff⟩ := Anc_par sg hq hj hpj
      constructor
      · intro h
        rcases hiff.mp h with w | w
        · exact absurd w hn
        · exact w
      · intro h; exact hiff.mpr (Or.inr h)
  · simp only [Bool.and_eq_true, decide_eq_true_eq, ancB_iff]
    obtain ⟨-, -, -, -, hiff⟩ := Anc_par (j := q) sg hq q3 q1
    exact hiff.mpr (Or.inl rfl)
theorem dep_root {k : Nat} (sg : Seg s p 0 50 k 0 50) : dep s p k = 0 := by
  unfold dep
  rw [cnt_zero]
  intro j hj
  have hk50 : k < 50 := sg.2.2.1
  cases hb : (decide (j ≠ k) && ancB s p j k)
  · rfl
  · simp only [Bool.and_eq_true, decide_eq_true_eq, ancB_iff] at hb
    have h1 : rk s j k := hb.2.2 k (by omega) sg.1 (Ne.symm hb.1)
    exact absurd (sg.root.2.2.2 j (by omega) hj hb.2.1 hb.1) (rk_as h1)
theorem depth_loop8 (hM : MR is g p) (hg : g < 4) (hs : s < 10000) : ∀ m k c n e, k < 50 → p k = true → 50 - rn s k ≤ m → m + 1 ≤ n → f_X8_aboveOf (nI s) is (nI g) (nI k) = some e → L_X8_depthOf_10 n (nI s) is (nI g) (nI c) e = some (nI (c + dep s p k)) := by
  intro m
  induction m with
  | zero => intro k c n e hk _ h; have := rn_50 (s := s) hk; omega
  | succ m ih =>
    intro k c n e hk hp hm hn he
    obtain ⟨n, rfl⟩ : ∃ q, n = q + 1 := ⟨n - 1, by omega⟩
    obtain ⟨a, b, ha, hb, hor⟩ := aboveOf_eq hM hg hs hk
    have sg : Seg s p 0 50 k a b := ⟨hp, ha, hb⟩
    rw [L_X8_depthOf_10]
    rcases hor with ⟨rfl, rfl, e1⟩ | ⟨q, hq, e1⟩
    · rw [e1] at he
      cases he
      rw [if_pos neg6, dep_root sg]
      rfl
    · rw [e1] at he
      cases he
      obtain ⟨q1, q2, q3, q4, -⟩ := Anc_par (j := k) sg hq hk hp
      obtain ⟨a', b', -, -, hor2⟩ := aboveOf_eq hM hg hs q3
      obtain ⟨e2, he2⟩ : ∃ e2, f_X8_aboveOf (nI s) is (nI g) (nI q) = some e2 := by
        rcases hor2 with ⟨-, -, w⟩ | ⟨q', -, w⟩
        · exact ⟨_, w⟩
        · exact ⟨_, w⟩
      have hlt := rn_lt hk q2
      rw [if_neg (nI_pos (by omega)), he2, Option.bind_some, nI_one, ih q (c + 1) n e2 q3 q1 (by omega) (by omega) he2, dep_par sg hq]
      congr 2
      omega
theorem depth8_eq (hM : MR is g p) (hg : g < 4) (hs : s < 10000) {k : Nat} (hk : k < 50) (hp : p k = true) : f_X8_depthOf (nI s) is (nI g) (nI k) = some (nI (dep s p k)) := by
  obtain ⟨a, b, -, -, hor⟩ := aboveOf_eq hM hg hs hk
  obtain ⟨e, he⟩ : ∃ e, f_X8_aboveOf (nI s) is (nI g) (nI k) = some e := by
    rcases hor with ⟨-, -, w⟩ | ⟨q', -, w⟩
    · exact ⟨_, w⟩
    · exact ⟨_, w⟩
  unfold f_X8_depthOf
  have e2 : L_X8_depthOf_10 20000 (nI s) is (nI g) (0 : Int32) e = some (nI (0 + dep s p k)) := depth_loop8 hM hg hs 50 k 0 20000 e hk hp (by omega) (by omega) he
  rw [he, Option.bind_some, e2, Option.bind_some, Nat.zero_add]
end Depth
section Node
variable {S : Nat → Nat → Bool} {keys : Nat → Int64} {is : Nat → Int32} {s : Nat}
theorem w7 {v : Int32} {n : Nat} (h0 : ¬ v < 0) (h : v ≤ nI n) (hn : n < 2 ^ 31) : ∃ w, w ≤ n ∧ v = nI w := nI_of2 (M := nI n) (nI_toInt hn) h0 h
theorem nI_ne {a b : Nat} (ha : a < 2 ^ 31) (hb : b < 2 ^ 31) (h : a ≠ b) : (nI a = nI b) = False := propext ⟨fun q => h ((nI_eq ha hb).mp q), False.elim⟩
theorem node_eq (h : SetR S keys is) (hs : s < 10000) {prio : Nat → Int32} {by_ : Int32} (hPB : PB prio by_) {order : Nat → Int32} (hO : OrdOK order) (left right parent : Nat → Int32) (span : Nat → Int64) (root : Int32) (dig hei opn : Nat → Int32) (mdig : Nat → Int64) (tall : Nat → Int32) (v1 v2 v3 : Int32) :
    ∃ (r : Int32) (l' r' pa' : Nat → Int32) (sp' : Nat → Int64) (ro' : Int32) (dg' he' pr' : Nat → Int32) (by' : Int32) (op' : Nat → Int32) (order' : Nat → Int32) (mdig' : Nat → Int64) (tall' : Nat → Int32), f_X7_node keys (nI s) left right parent span root dig hei prio by_ opn v1 v2 v3 = some (r, l', r', pa', sp', ro', dg', he', pr', by', op') ∧ f_X8_node (nI s) is order mdig tall v1 v2 v3 = some (r, order', mdig', tall') ∧ PB pr' by' ∧ OrdOK order' := by
  unfold f_X7_node f_X8_node
  rcases ixc v1 4 (by decide) with ⟨g, hg, rfl⟩ | hv
  · rcases ixc v2 50 (by decide) with ⟨k, hk, rfl⟩ | hv
    · simp only [isSet_in hg, mSet_in hg, isKey_in hk, mKey_in hk, Option.bind_some, n10e, if_false, in32 v3 0 6 (a := 0) (b := 6) rfl rfl]
      by_cases c1 : v3 < 0
      · have c1' : v3.toInt < 0 := by rw [l32] at c1; exact c1
        rw [if_pos c1, if_neg (show ¬ ((0 : Int) ≤ v3.toInt ∧ v3.toInt ≤ 6) by omega), if_pos rfl]
        exact ⟨_, _, _, _, _, _, _, _, _, _, _, _, _, _, rfl, rfl, hPB, hO⟩
      · by_cases c2 : v3 ≤ 6
        · have hM := (h g hg).2.1
          have c3 : (0 : Int) ≤ v3.toInt ∧ v3.toInt ≤ 6 := by
            rw [l32] at c1; rw [le32] at c2
            exact ⟨by have : (0 : Int32).toInt = 0 := rfl; omega, c2⟩
          rw [if_neg c1, if_pos c2, if_pos c3]
          simp only [n10e, if_false, aget_nI hg (show 4 < 2 ^ 31 by decide), Option.bind_some, isIn_eq (keys g) (show k < 64 by omega), bx_key h hg hk, has_eq hM hg hk]
          cases hp : S g k
          · simp only [b01f, if_true]; exact ⟨_, _, _, _, _, _, _, _, _, _, _, _, _, _, rfl, rfl, hPB, hO⟩
          · simp only [b01t, n10e, if_false]
            obtain ⟨l', r', pa', sp', ro', dg', he', pr', op', e, hT, hpr⟩ := grow_eq (s := s) hs hPB (fun j hj => bx_key h hg hj) left right parent span root dig hei opn
            have hPB' := hpr.PB hs
            simp only [e, Option.bind_some]
            obtain ⟨a, b, sg, ⟨f1, f2, f3, f4, f5⟩, hpar⟩ := hT.2.1 k (by omega) hk hp
            obtain ⟨w, hw, rfl⟩ := w7 (n := 6) c1 c2 (by decide)
            obtain ⟨a1, e1, ha1⟩ := below_eq hM hg hs (j := k) (lo := 0) hk (by omega)
            obtain ⟨b1, e2, hb1⟩ := beyond_eq hM hg hs (j := k) (hi := 50) hk (by omega)
            obtain rfl := La_un ha1 sg.2.1
            obtain rfl := Rb_un hb1 sg.2.2
            have e1' : f_X8_below (nI s) is (nI g) (nI k) (0 : Int32) = some (im a1) := e1
            have e2' : f_X8_beyond (nI s) is (nI g) (nI k) (49 : Int32) = some (nI b1) := e2
            rcases (show w = 0 ∨ w = 1 ∨ w = 2 ∨ w = 3 ∨ w = 4 ∨ w = 5 ∨ w = 6 by omega) with rfl | rfl | rfl | rfl | rfl | rfl | rfl
            · obtain ⟨a2, b2, ha2, hb2, hor⟩ := aboveOf_eq hM hg hs hk
              obtain rfl := La_un ha2 sg.2.1
              obtain rfl := Rb_un hb2 sg.2.2
              have hval : f_X8_aboveOf (nI s) is (nI g) (nI k) = some (pa' k) := by
                rcases hor with ⟨rfl, rfl, w⟩ | ⟨q, hq, w⟩
                · rw [w, hT.2.2.2 k sg.root]
                · rcases hpar with ⟨rfl, rfl⟩ | ⟨q2, hq2, w2⟩
                  · rcases hq with q | q | q <;> omega
                  · rw [w, w2, Par_un hq hq2]
              have z : (nI 0 = (0 : Int32)) = True := eq_self _
              simp only [z, if_true, aget_nI hk (show 50 < 2 ^ 31 by decide), Option.bind_some, hval]
              exact ⟨_, _, _, _, _, _, _, _, _, _, _, _, _, _, rfl, rfl, hPB', hO⟩
            · obtain ⟨e5, h5, hV⟩ := rootOf_eq hM hg hs (lo := a1) (hi := k) (by omega) (by have := ha1.2.1; omega)
              have h5' : f_X8_rootOf (nI s) is (nI g) (nI a1) (nI k - (1 : Int32)) = some e5 := h5
              have z0 : (nI 1 = (0 : Int32)) = False := nI_ne (a := 1) (b := 0) (by decide) (by decide) (by decide)
              have z : (nI 1 = (1 : Int32)) = True := eq_self _
              simp only [z0, z, if_true, if_false, aget_nI hk (show 50 < 2 ^ 31 by decide), Option.bind_some, e1', im_one, h5', RV_un hV f1]
              exact ⟨_, _, _, _, _, _, _, _, _, _, _, _, _, _, rfl, rfl, hPB', hO⟩
            · obtain ⟨e5, h5, hV⟩ := rootOf_eq hM hg hs (lo := k + 1) (hi := b1) hb1.2.1 (by omega)
              have h5' : f_X8_rootOf (nI s) is (nI g) (nI (k + 1)) (nI b1 - (1 : Int32)) = some e5 := h5
              have z0 : (nI 2 = (0 : Int32)) = False := nI_ne (a := 2) (b := 0) (by decide) (by decide) (by decide)
              have z1 : (nI 2 = (1 : Int32)) = False := nI_ne (a := 2) (b := 1) (by decide) (by decide) (by decide)
              have z : (nI 2 = (2 : Int32)) = True := eq_self _
              simp only [z0, z1, z, if_true, if_false, aget_nI hk (show 50 < 2 ^ 31 by decide), Option.bind_some, e2', nI_one, h5', RV_un hV f2]
              exact ⟨_, _, _, _, _, _, _, _, _, _, _, _, _, _, rfl, rfl, hPB', hO⟩
            · obtain ⟨x, a2, b2, e6, ha2, hb2, hx⟩ := treeOf_eq hM hg hs hk
              obtain rfl := La_un ha2 sg.2.1
              obtain rfl := Rb_un hb2 sg.2.2
              have hxs : x = sp' k := Bits_un hx f3
              have hsz : f_X4_sizeBelow sp' (nI k) = some (nI (pcx (sp' k))) := by
                unfold f_X4_sizeBelow f_X4_spanBelow
                rw [if_neg (nI_pos (by omega)), aget_nI hk (by decide)]
                simp only [Option.bind_some, count_eq]
              have z0 : (nI 3 = (0 : Int32)) = False := nI_ne (a := 3) (b := 0) (by decide) (by decide) (by decide)
              have z1 : (nI 3 = (1 : Int32)) = False := nI_ne (a := 3) (b := 1) (by decide) (by decide) (by decide)
              have z2 : (nI 3 = (2 : Int32)) = False := nI_ne (a := 3) (b := 2) (by decide) (by decide) (by decide)
              have z : (nI 3 = (3 : Int32)) = True := eq_self _
              simp only [z0, z1, z2, z, if_true, if_false, hsz, Option.bind_some, e6, ones_eq, hxs]
              exact ⟨_, _, _, _, _, _, _, _, _, _, _, _, _, _, rfl, rfl, hPB', hO⟩
            · obtain ⟨order', dig', tall', e6, hO', hDI⟩ := m_digest hM hg hs hO mdig tall
              have hd := (hDI k (by omega) hk hp (rn_50 hk) _ _ sg).1
              have hsz : f_X4_digestBelow dg' (nI k) = some (nI (dg s (S g) a1 b1)) := by
                unfold f_X4_digestBelow
                rw [if_neg (nI_pos (by omega)), aget_nI hk (by decide), f4]; rfl
              have hda : f_X8_digestAt (nI s) is order mdig tall (nI g) (nI k) = some (nI (dg s (S g) a1 b1), order', dig', tall') := by
                unfold f_X8_digestAt
                rw [e6]
                simp only [Option.bind_some, aget_nI hk (show 50 < 2 ^ 31 by decide), hd, lN_i]
              have z0 : (nI 4 = (0 : Int32)) = False := nI_ne (a := 4) (b := 0) (by decide) (by decide) (by decide)
              have z1 : (nI 4 = (1 : Int32)) = False := nI_ne (a := 4) (b := 1) (by decide) (by decide) (by decide)
              have z2 : (nI 4 = (2 : Int32)) = False := nI_ne (a := 4) (b := 2) (by decide) (by decide) (by decide)
              have z3 : (nI 4 = (3 : Int32)) = False := nI_ne (a := 4) (b := 3) (by decide) (by decide) (by decide)
              have z : (nI 4 = (4 : Int32)) = True := eq_self _
              simp only [z0, z1, z2, z3, z, if_true, if_false, hsz, Option.bind_some, hda]
              exact ⟨_, _, _, _, _, _, _, _, _, _, _, _, _, _, rfl, rfl, hPB', hO'⟩
            · have z0 : (nI 5 = (0 : Int32)) = False := nI_ne (a := 5) (b := 0) (by decide) (by decide) (by decide)
              have z1 : (nI 5 = (1 : Int32)) = False := nI_ne (a := 5) (b := 1) (by decide) (by decide) (by decide)
              have z2 : (nI 5 = (2 : Int32)) = False := nI_ne (a := 5) (b := 2) (by decide) (by decide) (by decide)
              have z3 : (nI 5 = (3 : Int32)) = False := nI_ne (a := 5) (b := 3) (by decide) (by decide) (by decide)
              have z4 : (nI 5 = (4 : Int32)) = False := nI_ne (a := 5) (b := 4) (by decide) (by decide) (by decide)
              have z : (nI 5 = (5 : Int32)) = True := eq_self _
              simp only [z0, z1, z2, z3, z4, z, if_true, if_false, depth7_eq hT hk hp, depth8_eq hM hg hs hk hp, Option.bind_some]
              exact ⟨_, _, _, _, _, _, _, _, _, _, _, _, _, _, rfl, rfl, hPB', hO⟩
            · have z0 : (nI 6 = (0 : Int32)) = False := nI_ne (a := 6) (b := 0) (by decide) (by decide) (by decide)
              have z1 : (nI 6 = (1 : Int32)) = False := nI_ne (a := 6) (b := 1) (by decide) (by decide) (by decide)
              have z2 : (nI 6 = (2 : Int32)) = False := nI_ne (a := 6) (b := 2) (by decide) (by decide) (by decide)
              have z3 : (nI 6 = (3 : Int32)) = False := nI_ne (a := 6) (b := 3) (by decide) (by decide) (by decide)
              have z4 : (nI 6 = (4 : Int32)) = False := nI_ne (a := 6) (b := 4) (by decide) (by decide) (by decide)
              have z5 : (nI 6 = (5 : Int32)) = False := nI_ne (a := 6) (b := 5) (by decide) (by decide) (by decide)
              simp only [z0, z1, z2, z3, z4, z5, if_false, prio_eq hs hk, mprio_eq hs hk, Option.bind_some]
              exact ⟨_, _, _, _, _, _, _, _, _, _, _, _, _, _, rfl, rfl, hPB', hO⟩
        · have c2' : 6 < v3.toInt := by
            rw [le32] at c2
            have : (6 : Int32).toInt = 6 := rfl
            omega
          rw [if_neg c1, if_neg c2, if_neg (show ¬ ((0 : Int) ≤ v3.toInt ∧ v3.toInt ≤ 6) by omega), if_pos rfl]
          exact ⟨_, _, _, _, _, _, _, _, _, _, _, _, _, _, rfl, rfl, hPB, hO⟩
    · simp only [isSet_in hg, mSet_in hg, isKey_out hv, mKey_out hv, Option.bind_some, n10e, if_false, if_true]
      exact ⟨_, _, _, _, _, _, _, _, _, _, _, _, _, _, rfl, rfl, hPB, hO⟩
  · simp only [isSet_out hv, mSet_out hv, Option.bind_some, if_true]
    exact ⟨_, _, _, _, _, _, _, _, _, _, _, _, _, _, rfl, rfl, hPB, hO⟩
end Node
